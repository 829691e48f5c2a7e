/-! part 21: Line(boolean) -/
def ENVK (D : va_G) (w : Wc) (aS : Nat → Nat) (sk sv : Nat) (A : Nat → Prop) (U : State) : Prop := ENVC D w aS sk sv A U ∧ va_AO "Lineclock$Station" U ∧ va_AO "Lineclock$Car" U
theorem ENVK.ok {D : va_G} {w : Wc} {aS : Nat → Nat} {sk sv : Nat} {A : Nat → Prop} : EVok (ENVK D w aS sk sv A) A := fun s H locs U h hS hU hW => ⟨ENVC.ok s H locs U h.1 hS hU hW, h.2.1.moved hW.alike, h.2.2.moved hW.alike⟩
theorem LW.congr {D : va_G} {base n : Nat} {f g : Nat → va_E} {A : Nat → Prop} {H : Heap} (h : ∀ j, j < n → f j = g j) (hW : LW D base n f A H) : LW D base n g A H := by
  have e : iw n (adrL base) (celL f) (nS 0 0 0) = iw n (adrL base) (celL g) (nS 0 0 0) := by
    apply List.ext_getElem?
    intro j
    by_cases hj : j < n
    · rw [iw_get hj, iw_get hj]; show some (base + j, f j) = some (base + j, g j); rw [h j hj]
    · have hl : ∀ z : Nat → va_E, (iw n (adrL base) (celL z) (nS 0 0 0)).length = n := fun z => by unfold iw; rw [List.length_map, List.length_range]
      rw [List.getElem?_eq_none (by rw [hl]; omega), List.getElem?_eq_none (by rw [hl]; omega)]
  exact ⟨hW.1, e ▸ hW.2.1, e ▸ hW.2.2⟩
theorem LZ.congr {D : va_G} {base n : Nat} {f g : Nat → va_E} {A : Nat → Prop} {H0 H : Heap} {locs : List Loc} (h : ∀ j, j < n → f j = g j) (hZ : LZ D base A H0 n f H locs) : LZ D base A H0 n g H locs := ⟨hZ.1.congr h, hZ.2⟩
section LROWQ
variable {p : Program} {l : Launch} {e : Env} {R : Room} {s : State} {m : MethodId} {args : Array Value} {below : List Frame} {meth : Method} {c : Code} {H H0 : Heap} {locs : List Loc} {cells slots : Nat} {Q : State → Prop}
variable {cc : ByteArray} {pc nL : Nat} {ls : Array Slot} {rest : List Value} {own : String} {D : va_G} {A : Nat → Prop} {tys : List (ClassId × FieldType)} {base n : Nat} {f : Nat → va_E}
theorem l_astq (K0 : CallFix p m c cc nL s args GW own) (hK : va_K D vwCl tys s) (hZ : LZ D base A H0 n f H locs) {q0 t0 qk ci av v nn : Nat} {cA : ClassId} {r : vw_C} {vs : List Value} {g : Nat → Option Nat} (hq : q0 < n) (ha : base + q0 = av) (hcel : f q0 = .inl (cA, nn, .inr (.inr (.inr (.inr g))))) (ht : tys[t0]? = some (cA, .object r.1)) (hqk : qk < n) (hv : base + qk = v) (hcv : f qk = .inr (ci, vs)) (hc : vwCl[ci]? = some r) {i : Int32} (hin : vp_in i nn) (hdg : decode cc pc = .ok (.aastore, 1))
    (kk : ∀ (H : Heap) (locs : List Loc), LZ D base A H0 n (va_up f q0 (.inl (cA, nn, .inr (.inr (.inr (.inr (va_up g i.toNatClampNeg (some v)))))))) H locs → W p l e R s m args below meth c H locs cells slots Q (F0 m (pc + 1) ls rest)) : W p l e R s m args below meth c H locs cells slots Q (F0 m pc ls (.ref v :: .int i :: .ref av :: rest)) := by
  obtain ⟨⟨hsz, hP, hD⟩, hS⟩ := hZ
  subst ha
  subst hv
  have hlt : i.toNatClampNeg < nn := Nat.not_le.mp fun q => hin (Or.inr q)
  have h0 : ¬ i < 0 := fun q => hin (Or.inl q)
  have he : (iw n (adrL base) (celL f) (nS 0 0 0))[q0]? = some (base + q0, .inl (cA, nn, .inr (.inr (.inr (.inr g))))) := by rw [iw_get hq]; show some (base + q0, f q0) = _; rw [hcel]
  have hev : (iw n (adrL base) (celL f) (nS 0 0 0))[qk]? = some (base + qk, .inr (ci, vs)) := by rw [iw_get hqk]; show some (base + qk, f qk) = _; rw [hcv]
  obtain ⟨r', hr', cellV, g1, g2, g3, -⟩ := hP qk _ hev
  have hcls := (hK.1 ci r hc).2
  obtain ⟨kA, comp, k1, k2, k3, -⟩ := (hK.2 t0 _ ht).2
  have hcomp : comp = D.1 ci := Option.some.inj (k3.symm.trans hcls.1)
  subst hcomp
  obtain ⟨kC, hkC, -⟩ := hcls.2
  refine W.aast K0.1 K0.2.1 (hP q0 _ he) (fun q h => by cases h) (fun h => by cases h) k1 k2 rfl hkC ⟨h0, by show _ < (arrV _ _ _).slots.size; rw [arrV_size]; exact hlt⟩ g1 (fun q h => by rw [g3] at h; cases h) (by rw [g2]; exact hkC) (by rw [g2]; exact va_assign hcls) rfl rfl hdg fun H1 e1 z oq => ?_
  have hcell : H1[base + q0]? = some (vp_cell cA (nn, .inr (.inr (.inr (.inr (va_up g i.toNatClampNeg (some (base + qk)))))))) := by
    rw [e1, vp_cell_q, vp_cell_q, arrV_store]
    congr 2
    funext q
    by_cases hq : q = i.toNatClampNeg
    · subst hq
      simp [updV, va_up, va_rf]
    · simp [updV, va_up, hq]
  refine kk H1 _ ⟨⟨z.trans hsz, ?_, ?_⟩, hS.put z oq (hD.2 q0 _ he)⟩
  · rw [← iwL_set hq]; exact hP.set hD he hcell oq
  · rw [← iwL_set hq]; exact hD.set he
end LROWQ
def cE (i : Nat) (v : Value) : va_E := .inr (2, [.int (nI i), v, .int 0, .int 119, .int (-1), .int 0, .int 0, .int 0, .int 0, .int 0, .int 0])
def sE : va_E := .inr (5, [.int 0, .int (-1), .int 0, .int 0, .int 0, .int (-1), .int 0, .long 0])
def zE (c : ClassId) (k : Nat) : va_E := .inl (c, k, .inl (fun _ => 0))
/-- a line with ns stations and nc cars made, d cells a car, from the n-th cell on; its own object is the k-th -/
def lnF (w : Wc) (base n k d : Nat) (f : Nat → va_E) (ns nc : Nat) : Nat → va_E := fun q =>
  if q < n then (if q = k then .inr (3, [.ref (base + n), .ref (base + (n + 1)), .ref (base + (n + 2)), .ref (base + (n + 3)), .ref (base + (n + 5)), .ref (base + (n + 7)), .int 0, .int 0, .int 0, .int 10]) else f q)
  else if q = n then .inl (w.2.2.1, 8, .inr (.inr (.inr (.inr (fun j => if j < ns then some (base + (n + 9 + j)) else none)))))
  else if q = n + 1 then .inl (w.2.2.2.1, 30, .inr (.inr (.inr (.inr (fun j => if j < nc then some (base + (n + 17 + d * j)) else none)))))
  else if q = n + 2 then zE w.1 6
  else if q < n + 9 then (if (q - n) % 2 = 1 then .inr (4, [.ref (base + (q + 1)), .int 0]) else zE w.1 30)
  else if q < n + 17 then sE
  else if d = 1 then cE (q - (n + 17)) .null
  else if (q - (n + 17)) % 4 = 0 then cE ((q - (n + 17)) / 4) (.ref (base + (q + 1)))
  else if (q - (n + 17)) % 4 = 1 then .inr (6, [.ref (base + (q + 1)), .int 0, .ref (base + (q + 2))])
  else if (q - (n + 17)) % 4 = 2 then zE w.2.1 32
  else zE w.1 5
theorem nI_8 : ∀ i, i < 8 → ¬ (8 : Int32) ≤ nI i ∧ nI i + 1 = nI (i + 1) ∧ vp_in (nI i) 8 ∧ (nI i).toNatClampNeg = i := by unfold vp_in; decide +kernel
theorem nI_30 : ∀ i, i < 30 → ¬ (30 : Int32) ≤ nI i ∧ nI i + 1 = nI (i + 1) ∧ vp_in (nI i) 30 ∧ (nI i).toNatClampNeg = i := by unfold vp_in; decide +kernel
theorem yd_X0_init : yX0_init.cls ≠ "java/lang/invoke/MethodHandle" ∧ yX0_init.cls ≠ "java/lang/invoke/VarHandle" ∧ (parseMethodDescriptor yX0_init.desc).map (fun d => d.parameters.length) = some 2 := by decide +kernel
set_option maxHeartbeats 4000000 in
set_option maxRecDepth 100000 in
theorem c_X1_init (l : Launch) (D : va_G) (w : Wc) (aS : Nat → Nat) (sk sv : Nat) (A : Nat → Prop) (base n k d u : Nat) (f : Nat → va_E) (fl : Int32) (hd : (fl = 1 ∧ d = 4 ∧ u = 51) ∨ (fl = 0 ∧ d = 1 ∧ u = 11)) (hk : k < n) (hf : f k = .inr (3, [.null, .null, .null, .null, .null, .null, .int 0, .int 0, .int 0, .int 0])) :
    CL l yX1_init cX1_init 3 2 50 D base (ENVK D w aS sk sv A) A [.ref (base + k), .int fl] (17 + 30 * d) (204 + 30 * u) n f (n + 17 + 30 * d) (lnF w base n k d f 8 30) := by
  refine CL.ofW (by decide) rfl [(0, .ref (base + k)), (1, .int fl)] (by simp [lv_args, vr_cat, vc_i, vc_j, vc_f, vc_d, vc_r, vc_n]) (by simp [lg_sl, vr_cat, vc_i, vc_j, vc_f, vc_d, vc_r, vc_n]) ?_
  intro R p e s m args below meth c ls hRf hRl hRc hRs K0 hname hr hlocks hEV hA hZ hl
  have K0 : CallFix p m c cX1_init 3 s args GW RX1 := K0
  have hx := K0.1
  have hb := K0.2.1
  have hK := hEV.1.1
  have hd1 : 1 ≤ d ∧ 11 ≤ u := by rcases hd with ⟨-, rfl, rfl⟩ | ⟨-, rfl, rfl⟩ <;> omega
  have hk0 : k ≠ n := by omega
  have hk1 : k ≠ n + 1 := by omega
  have hk2 : k ≠ n + 2 := by omega
  have hk3 : k ≠ n + 3 := by omega
  have hk4 : k ≠ n + 4 := by omega
  have hk5 : k ≠ n + 5 := by omega
  have hk6 : k ≠ n + 6 := by omega
  have hk7 : k ≠ n + 7 := by omega
  have hk8 : k ≠ n + 8 := by omega
  refine lv_aload_n hx hb dX1_init_0 rfl (lv_at hl 0 rfl) ?_
  refine l_obj K0 q77 hl.1 (by simp) ⟨by omega, by omega⟩ dX1_init_1 ?_
  refine lv_aload_n hx hb dX1_init_4 rfl (lv_at hl 0 rfl) ?_
  refine lv_bipush (v := (8)) hx hb dX1_init_5 (by decide +kernel) ?_
  refine l_newQ K0 hK hA hZ q78 hEV.2.1 (t0 := 2) rfl (N := 8) (by decide) (by decide) (by decide) (by omega) (by omega) dX1_init_7 (fun H hZ => ?_)
  refine l_putF K0 hK hZ (q0 := k) (by omega) rfl (ci := 3) (fs := [.null, .null, .null, .null, .null, .null, .int 0, .int 0, .int 0, .int 0]) (by simp [va_up, hf, hk0]) (C := RX1) (T := TX1) (N := 10) rfl iX1 tyX1 tyX1_ok nmX1 0 (by decide) q212 rfl hname rfl (v := .ref (base + n)) rfl rfl (Nat.le_of_ble_eq_true rfl) dX1_init_10 (fun H locs hZ => ?_)
  refine lv_aload_n hx hb dX1_init_13 rfl (lv_at hl 0 rfl) ?_
  refine lv_bipush (v := (30)) hx hb dX1_init_14 (by decide +kernel) ?_
  refine l_newQ K0 hK hA hZ q80 hEV.2.2 (t0 := 3) rfl (N := 30) (by decide) (by decide) (by decide) (by omega) (by omega) dX1_init_16 (fun H hZ => ?_)
  refine l_putF K0 hK hZ (q0 := k) (by omega) rfl (ci := 3) (fs := [.ref (base + n), .null, .null, .null, .null, .null, .int 0, .int 0, .int 0, .int 0]) (by simp [va_up, hk1]) (C := RX1) (T := TX1) (N := 10) rfl iX1 tyX1 tyX1_ok nmX1 1 (by decide) q213 rfl hname rfl (v := .ref (base + (n + 1))) rfl rfl (Nat.le_of_ble_eq_true rfl) dX1_init_19 (fun H locs hZ => ?_)
  refine lv_aload_n hx hb dX1_init_22 rfl (lv_at hl 0 rfl) ?_
  refine lv_bipush (v := (6)) hx hb dX1_init_23 (by decide +kernel) ?_
  refine l_newI K0 hK q97 hA hZ (t0 := 0) rfl (N := 6) (by decide) (by decide) (by decide) (by omega) (by omega) dX1_init_25 (fun H hZ => ?_)
  refine l_putF K0 hK hZ (q0 := k) (by omega) rfl (ci := 3) (fs := [.ref (base + n), .ref (base + (n + 1)), .null, .null, .null, .null, .int 0, .int 0, .int 0, .int 0]) (by simp [va_up, hk2]) (C := RX1) (T := TX1) (N := 10) rfl iX1 tyX1 tyX1_ok nmX1 2 (by decide) q214 rfl hname rfl (v := .ref (base + (n + 2))) rfl rfl (Nat.le_of_ble_eq_true rfl) dX1_init_27 (fun H locs hZ => ?_)
  refine lv_aload_n hx hb dX1_init_30 rfl (lv_at hl 0 rfl) ?_
  refine l_new K0 hK hA hZ (C := RX2) (T := TX2) (N := 2) (ci := 4) iX2 tyX2 tyX2_ok q82 q83 q42 rfl (fs := [.null, .int 0]) (fun j hj => by rcases j with _ | _ | j <;> first | rfl | omega) (by omega) (by omega) dX1_init_31 (fun H hZ => ?_)
  refine lv_dup hx hb dX1_init_34 rfl ?_
  refine l_callN (As := []) K0 ENVC.ok hEV.1 hA (c_X2_init l D w aS sk sv A base (n + 4) (n + 3) _ (by omega) up_eq) (nw0 hEV.1) q85 q42 q86 rfl (by decide +kernel) ⟨by omega, by omega⟩ ⟨by omega, by omega⟩ hZ hl.1 rfl (by simp [vc_r]) dX1_init_35 (fun H locs hZ => ?_)
  refine l_putF K0 hK hZ (q0 := k) (by omega) rfl (ci := 3) (fs := [.ref (base + n), .ref (base + (n + 1)), .ref (base + (n + 2)), .null, .null, .null, .int 0, .int 0, .int 0, .int 0]) (by simp [va_up, hk0, hk1, hk2, hk3, hk4]) (C := RX1) (T := TX1) (N := 10) rfl iX1 tyX1 tyX1_ok nmX1 3 (by decide) q215 rfl hname rfl (v := .ref (base + (n + 3))) rfl rfl (Nat.le_of_ble_eq_true rfl) dX1_init_38 (fun H locs hZ => ?_)
  refine lv_aload_n hx hb dX1_init_41 rfl (lv_at hl 0 rfl) ?_
  refine l_new K0 hK hA hZ (C := RX2) (T := TX2) (N := 2) (ci := 4) iX2 tyX2 tyX2_ok q82 q83 q42 rfl (fs := [.null, .int 0]) (fun j hj => by rcases j with _ | _ | j <;> first | rfl | omega) (by omega) (by omega) dX1_init_42 (fun H hZ => ?_)
  refine lv_dup hx hb dX1_init_45 rfl ?_
  refine l_callN (As := []) K0 ENVC.ok hEV.1 hA (c_X2_init l D w aS sk sv A base (n + 6) (n + 5) _ (by omega) up_eq) (nw0 hEV.1) q85 q42 q86 rfl (by decide +kernel) ⟨by omega, by omega⟩ ⟨by omega, by omega⟩ hZ hl.1 rfl (by simp [vc_r]) dX1_init_46 (fun H locs hZ => ?_)
  refine l_putF K0 hK hZ (q0 := k) (by omega) rfl (ci := 3) (fs := [.ref (base + n), .ref (base + (n + 1)), .ref (base + (n + 2)), .ref (base + (n + 3)), .null, .null, .int 0, .int 0, .int 0, .int 0]) (by simp [va_up, hk0, hk1, hk2, hk3, hk4, hk5, hk6]) (C := RX1) (T := TX1) (N := 10) rfl iX1 tyX1 tyX1_ok nmX1 4 (by decide) q217 rfl hname rfl (v := .ref (base + (n + 5))) rfl rfl (Nat.le_of_ble_eq_true rfl) dX1_init_49 (fun H locs hZ => ?_)
  refine lv_aload_n hx hb dX1_init_52 rfl (lv_at hl 0 rfl) ?_
  refine l_new K0 hK hA hZ (C := RX2) (T := TX2) (N := 2) (ci := 4) iX2 tyX2 tyX2_ok q82 q83 q42 rfl (fs := [.null, .int 0]) (fun j hj => by rcases j with _ | _ | j <;> first | rfl | omega) (by omega) (by omega) dX1_init_53 (fun H hZ => ?_)
  refine lv_dup hx hb dX1_init_56 rfl ?_
  refine l_callN (As := []) K0 ENVC.ok hEV.1 hA (c_X2_init l D w aS sk sv A base (n + 8) (n + 7) _ (by omega) up_eq) (nw0 hEV.1) q85 q42 q86 rfl (by decide +kernel) ⟨by omega, by omega⟩ ⟨by omega, by omega⟩ hZ hl.1 rfl (by simp [vc_r]) dX1_init_57 (fun H locs hZ => ?_)
  refine l_putF K0 hK hZ (q0 := k) (by omega) rfl (ci := 3) (fs := [.ref (base + n), .ref (base + (n + 1)), .ref (base + (n + 2)), .ref (base + (n + 3)), .ref (base + (n + 5)), .null, .int 0, .int 0, .int 0, .int 0]) (by simp [va_up, hk0, hk1, hk2, hk3, hk4, hk5, hk6, hk7, hk8]) (C := RX1) (T := TX1) (N := 10) rfl iX1 tyX1 tyX1_ok nmX1 5 (by decide) q219 rfl hname rfl (v := .ref (base + (n + 7))) rfl rfl (Nat.le_of_ble_eq_true rfl) dX1_init_60 (fun H locs hZ => ?_)
  refine lv_aload_n hx hb dX1_init_63 rfl (lv_at hl 0 rfl) ?_
  refine lv_bipush (v := (10)) hx hb dX1_init_64 (by decide +kernel) ?_
  refine l_put K0 hK hZ (q0 := k) (by omega) rfl (ci := 3) (fs := [.ref (base + n), .ref (base + (n + 1)), .ref (base + (n + 2)), .ref (base + (n + 3)), .ref (base + (n + 5)), .ref (base + (n + 7)), .int 0, .int 0, .int 0, .int 0]) (by simp [va_up, hk0, hk1, hk2, hk3, hk4, hk5, hk6, hk7, hk8]) (C := RX1) (T := TX1) (N := 10) rfl iX1 tyX1 tyX1_ok nmX1 9 (by decide) q227 rfl (v := .int 10) rfl rfl (Nat.le_of_ble_eq_true rfl) dX1_init_66 (fun H locs hZ => ?_)
  have hZ := hZ.congr (g := lnF w base n k d f 0 0) (fun j hj => by
    unfold lnF va_up
    rcases Nat.lt_or_ge j n with h | h
    · rw [if_pos h]
      by_cases hjk : j = k
      · subst hjk; simp
      · rw [if_neg hjk, if_neg hjk, if_neg hjk, if_neg hjk, if_neg hjk, if_neg hjk, if_neg hjk]
        simp [hjk, show j ≠ n from by omega, show j ≠ n + 1 from by omega, show j ≠ n + 2 from by omega, show j ≠ n + 3 from by omega, show j ≠ n + 4 from by omega, show j ≠ n + 5 from by omega, show j ≠ n + 6 from by omega, show j ≠ n + 7 from by omega, show j ≠ n + 8 from by omega]
    · obtain ⟨i, rfl⟩ := Nat.exists_eq_add_of_le h
      have hi : i < 9 := by omega
      have hik : ∀ z : Nat, n + z ≠ k := fun z => by omega
      have hnn : ∀ z : Nat, ¬ n + z < n := fun z => by omega
      rcases i with _ | _ | _ | _ | _ | _ | _ | _ | _ | i <;> first | omega | simp [hik, hnn, zE, hk0.symm, Nat.add_assoc])
  have hLk : ∀ a b, lnF w base n k d f a b k = .inr (3, [.ref (base + n), .ref (base + (n + 1)), .ref (base + (n + 2)), .ref (base + (n + 3)), .ref (base + (n + 5)), .ref (base + (n + 7)), .int 0, .int 0, .int 0, .int 10]) := fun a b => by unfold lnF; rw [if_pos hk, if_pos rfl]
  have hLn : ∀ a b, lnF w base n k d f a b n = .inl (w.2.2.1, 8, .inr (.inr (.inr (.inr (fun j => if j < a then some (base + (n + 9 + j)) else none))))) := fun a b => by unfold lnF; rw [if_neg (by omega), if_pos rfl]
  have hLm : ∀ a b, lnF w base n k d f a b (n + 1) = .inl (w.2.2.2.1, 30, .inr (.inr (.inr (.inr (fun j => if j < b then some (base + (n + 17 + d * j)) else none))))) := fun a b => by unfold lnF; rw [if_neg (by omega), if_neg (by omega), if_pos rfl]
  have loop2 : ∀ (z i : Nat), i + z = 30 → ∀ (H : Heap) (locs : List Loc) (ls : Array Slot), lv_has ls 3 [(2, .int (nI i)), (0, .ref (base + k)), (1, .int fl)] → LZ D base A s.heap (n + 17 + d * i) (lnF w base n k d f 8 i) H locs →
      W p l e R s m args below meth c H locs (17 + d * i) (204 + u * i) (MQ below (QL D base (n + 17 + 30 * d) (lnF w base n k d f 8 30) A) args s (17 + 30 * d) (204 + 30 * u) A) (F0 m 101 ls []) := by
    intro z
    induction z with
    | zero =>
      intro i hi H locs ls hl hZ
      have hi : i = 30 := by omega
      subst hi
      refine lv_iload_n hx hb dX1_init_101 rfl (lv_at hl 0 rfl) ?_
      refine lv_aload_n hx hb dX1_init_102 rfl (lv_at hl 1 rfl) ?_
      refine l_get K0 hK hZ (q0 := k) (by omega) rfl (ci := 3) (hLk 8 30) (C := RX1) (T := TX1) (N := 10) rfl iX1 1 (by decide) q213 (v := .ref (base + (n + 1))) rfl dX1_init_103 ?_
      refine l_alen K0 hK hZ (q0 := n + 1) (by omega) rfl (hLm 8 30) (t0 := 3) rfl (v := 30) rfl dX1_init_106 ?_
      refine lv_icmp_ge (tgt := 145) hx hb dX1_init_107 (by decide) (fun hc => ?_) (fun hc => absurd (by decide +kernel : (30 : Int32) ≤ nI 30) hc)
      have e1 : n + 17 + 30 * d = n + 17 + d * 30 := by rw [Nat.mul_comm]
      rw [e1, Nat.mul_comm 30 d, Nat.mul_comm 30 u]
      exact l_end K0 hr hlocks hZ dX1_init_145
    | succ z ih =>
      intro i hi H locs ls hl hZ
      have hi8 : i < 30 := by omega
      obtain ⟨w1, w2, w3, w4⟩ := nI_30 i hi8
      refine lv_iload_n hx hb dX1_init_101 rfl (lv_at hl 0 rfl) ?_
      refine lv_aload_n hx hb dX1_init_102 rfl (lv_at hl 1 rfl) ?_
      refine l_get K0 hK hZ (q0 := k) (by omega) rfl (ci := 3) (hLk 8 i) (C := RX1) (T := TX1) (N := 10) rfl iX1 1 (by decide) q213 (v := .ref (base + (n + 1))) rfl dX1_init_103 ?_
      refine l_alen K0 hK hZ (q0 := n + 1) (by omega) rfl (hLm 8 i) (t0 := 3) rfl (v := 30) rfl dX1_init_106 ?_
      refine lv_icmp_ge (tgt := 145) hx hb dX1_init_107 (by decide) (fun hc => absurd hc w1) (fun hc => ?_)
      refine lv_aload_n hx hb dX1_init_110 rfl (lv_at hl 1 rfl) ?_
      refine l_get K0 hK hZ (q0 := k) (by omega) rfl (ci := 3) (hLk 8 i) (C := RX1) (T := TX1) (N := 10) rfl iX1 1 (by decide) q213 (v := .ref (base + (n + 1))) rfl dX1_init_111 ?_
      refine lv_iload_n hx hb dX1_init_114 rfl (lv_at hl 0 rfl) ?_
      rcases hd with ⟨rfl, rfl, rfl⟩ | ⟨rfl, rfl, rfl⟩
      · refine l_new K0 hK hA hZ (C := RX0) (T := TX0) (N := 11) (ci := 2) iX0 tyX0 tyX0_ok q80 q138 q44 rfl (fs := [.int 0, .null, .int 0, .int 0, .int 0, .int 0, .int 0, .int 0, .int 0, .int 0, .int 0]) (fun j hj => by rcases j with _ | _ | _ | _ | _ | _ | _ | _ | _ | _ | _ | j <;> first | rfl | omega) (by omega) (by omega) dX1_init_115 (fun H hZ => ?_)
        refine lv_dup hx hb dX1_init_118 rfl ?_
        refine lv_iload_n hx hb dX1_init_119 rfl (lv_at hl 0 rfl) ?_
        refine lv_iload_n hx hb dX1_init_120 rfl (lv_at hl 2 rfl) ?_
        refine lv_if_eq (tgt := 134) hx hb dX1_init_121 (by decide) (fun hc => absurd hc (by decide)) (fun hc => ?_)
        refine l_new K0 hK hA hZ (C := RX4) (T := TX4) (N := 3) (ci := 6) iX4 tyX4 tyX4_ok q139 q140 q45 rfl (fs := [.null, .int 0, .null]) (fun j hj => by rcases j with _ | _ | _ | j <;> first | rfl | omega) (by omega) (by omega) dX1_init_124 (fun H hZ => ?_)
        refine lv_dup hx hb dX1_init_127 rfl ?_
        refine l_callN (As := []) K0 ENVC.ok hEV.1 hA (c_X4_init l D w aS sk sv A base (n + 17 + 4 * i + 1 + 1) (n + 17 + 4 * i + 1) _ (by omega) up_eq) (nw14 hEV.1) q142 q45 q143 rfl (by decide +kernel) ⟨by omega, by omega⟩ ⟨by omega, by omega⟩ hZ hl.1 rfl (by simp [vc_r, vc_i]) dX1_init_128 (fun H locs hZ => ?_)
        refine lv_goto (tgt := 135) hx hb dX1_init_131 (by decide) ?_
        refine l_callI (As := [.int (nI i), .ref (base + (n + 17 + 4 * i + 1))]) K0 ENVC.ok hEV.1 hA (c_X0_init l D w aS sk sv A base (n + 17 + 4 * i + 1 + 1 + 2) (n + 17 + 4 * i) _ (nI i) (.ref (base + (n + 17 + 4 * i + 1))) (Or.inr ⟨_, rfl⟩) (by omega) ((up_ne (by omega)).trans ((up_ne (by omega)).trans ((up_ne (by omega)).trans ((up_ne (by omega)).trans up_eq))))) q157 q158 q44 q159 rfl yd_X0_init ⟨by omega, by omega⟩ ⟨by omega, by omega⟩ hZ hl.1 rfl (by simp [vc_r, vc_i]) dX1_init_135 (fun H locs hZ => ?_)
        refine l_astq K0 hK hZ (q0 := n + 1) (t0 := 3) (qk := n + 17 + 4 * i) (ci := 2) (r := (RX0, TX0, 11)) (by omega) rfl (((up_ne (by omega)).trans ((up_ne (by omega)).trans ((up_ne (by omega)).trans ((up_ne (by omega)).trans ((up_ne (by omega)).trans (up_ne (by omega))))))).trans (hLm 8 i)) rfl (by omega) rfl up_eq rfl w3 dX1_init_138 (fun H locs hZ => ?_)
        refine lv_iinc (v := nI (i + 1)) (lv' := [(2, .int (nI (i + 1))), (0, .ref (base + k)), (1, .int 1)]) hx hb dX1_init_139 hl (k := 0) rfl w2 (by decide) rfl (fun ls hl => ?_)
        refine lv_goto (tgt := 101) hx hb dX1_init_142 (by decide) ?_
        refine ih (i + 1) (by omega) H locs ls hl (LZ.congr (fun j hj => ?_) hZ)
        by_cases hjn : j = n + 1
        · subst hjn
          rw [up_eq, hLm, w4]
          have hfn : va_up (fun j => if j < i then some (base + (n + 17 + 4 * j)) else none) i (some (base + (n + 17 + 4 * i))) = (fun j => if j < i + 1 then some (base + (n + 17 + 4 * j)) else none) := by
            funext q
            unfold va_up
            by_cases hq : q = i
            · subst hq; rw [if_pos rfl, if_pos (by omega)]
            · rw [if_neg hq]
              show (if q < i then some (base + (n + 17 + 4 * q)) else none) = _
              by_cases hq2 : q < i
              · rw [if_pos hq2, if_pos (by omega)]
              · rw [if_neg hq2, if_neg (by omega)]
          rw [hfn]
        · rw [up_ne hjn]
          by_cases hjl : j < n + 17 + 4 * i
          · refine ((up_ne (by omega)).trans ((up_ne (by omega)).trans ((up_ne (by omega)).trans ((up_ne (by omega)).trans ((up_ne (by omega)).trans ((up_ne (by omega)))))))).trans ?_
            unfold lnF
            simp only [if_neg hjn]
          · obtain ⟨r, rfl⟩ := Nat.exists_eq_add_of_le (Nat.not_lt.mp hjl)
            have hr4 : r < 4 := by omega
            have e1 : n + 17 + 4 * i + r - (n + 17) = 4 * i + r := by omega
            have e2 : (4 * i + r) % 4 = r := by omega
            have e3 : (4 * i + r) / 4 = i := by omega
            have hR : lnF w base n k 4 f 8 (i + 1) (n + 17 + 4 * i + r) = if r = 0 then cE i (.ref (base + (n + 17 + 4 * i + r + 1))) else if r = 1 then .inr (6, [.ref (base + (n + 17 + 4 * i + r + 1)), .int 0, .ref (base + (n + 17 + 4 * i + r + 2))]) else if r = 2 then zE w.2.1 32 else zE w.1 5 := by
              unfold lnF
              rw [if_neg (by omega), if_neg (by omega), if_neg hjn, if_neg (by omega), if_neg (by omega), if_neg (by omega), if_neg (by decide), e1, e2, e3]
            refine Eq.trans ?_ hR.symm
            rcases r with _ | _ | _ | _ | r
            · exact up_eq
            · exact (up_ne (by omega)).trans up_eq
            · exact (up_ne (by omega)).trans ((up_ne (by omega)).trans ((up_ne (by omega)).trans up_eq))
            · exact (up_ne (by omega)).trans ((up_ne (by omega)).trans up_eq)
            · omega
      · refine l_new K0 hK hA hZ (C := RX0) (T := TX0) (N := 11) (ci := 2) iX0 tyX0 tyX0_ok q80 q138 q44 rfl (fs := [.int 0, .null, .int 0, .int 0, .int 0, .int 0, .int 0, .int 0, .int 0, .int 0, .int 0]) (fun j hj => by rcases j with _ | _ | _ | _ | _ | _ | _ | _ | _ | _ | _ | j <;> first | rfl | omega) (by omega) (by omega) dX1_init_115 (fun H hZ => ?_)
        refine lv_dup hx hb dX1_init_118 rfl ?_
        refine lv_iload_n hx hb dX1_init_119 rfl (lv_at hl 0 rfl) ?_
        refine lv_iload_n hx hb dX1_init_120 rfl (lv_at hl 2 rfl) ?_
        refine lv_if_eq (tgt := 134) hx hb dX1_init_121 (by decide) (fun hc => ?_) (fun hc => absurd rfl hc)
        refine lv_null hx hb dX1_init_134 ?_
        refine l_callI (As := [.int (nI i), .null]) K0 ENVC.ok hEV.1 hA (c_X0_init l D w aS sk sv A base (n + 17 + 1 * i + 1) (n + 17 + 1 * i) _ (nI i) .null (Or.inl rfl) (by omega) up_eq) q157 q158 q44 q159 rfl yd_X0_init ⟨by omega, by omega⟩ ⟨by omega, by omega⟩ hZ hl.1 rfl (by simp [vc_r, vc_i]) dX1_init_135 (fun H locs hZ => ?_)
        refine l_astq K0 hK hZ (q0 := n + 1) (t0 := 3) (qk := n + 17 + 1 * i) (ci := 2) (r := (RX0, TX0, 11)) (by omega) rfl (((up_ne (by omega)).trans (up_ne (by omega))).trans (hLm 8 i)) rfl (by omega) rfl up_eq rfl w3 dX1_init_138 (fun H locs hZ => ?_)
        refine lv_iinc (v := nI (i + 1)) (lv' := [(2, .int (nI (i + 1))), (0, .ref (base + k)), (1, .int 0)]) hx hb dX1_init_139 hl (k := 0) rfl w2 (by decide) rfl (fun ls hl => ?_)
        refine lv_goto (tgt := 101) hx hb dX1_init_142 (by decide) ?_
        have e1 : 17 + 1 * i + 1 = 17 + 1 * (i + 1) := by omega
        have e2 : 204 + 11 * i + 11 = 204 + 11 * (i + 1) := by omega
        refine ih (i + 1) (by omega) H locs ls hl (LZ.congr (fun j hj => ?_) hZ)
        by_cases hjn : j = n + 1
        · subst hjn
          rw [up_eq, hLm, w4]
          have hfn : va_up (fun j => if j < i then some (base + (n + 17 + 1 * j)) else none) i (some (base + (n + 17 + 1 * i))) = (fun j => if j < i + 1 then some (base + (n + 17 + 1 * j)) else none) := by
            funext q
            unfold va_up
            by_cases hq : q = i
            · subst hq; rw [if_pos rfl, if_pos (by omega)]
            · rw [if_neg hq]
              show (if q < i then some (base + (n + 17 + 1 * q)) else none) = _
              by_cases hq2 : q < i
              · rw [if_pos hq2, if_pos (by omega)]
              · rw [if_neg hq2, if_neg (by omega)]
          rw [hfn]
        · rw [up_ne hjn]
          by_cases hjl : j < n + 17 + 1 * i
          · refine ((up_ne (by omega)).trans ((up_ne (by omega)))).trans ?_
            unfold lnF
            simp only [if_neg hjn]
          · have hjN : j = n + 17 + 1 * i := by omega
            subst hjN
            have e1 : n + 17 + 1 * i - (n + 17) = i := by omega
            have hR : lnF w base n k 1 f 8 (i + 1) (n + 17 + 1 * i) = cE i .null := by
              unfold lnF
              rw [if_neg (by omega), if_neg (by omega), if_neg hjn, if_neg (by omega), if_neg (by omega), if_neg (by omega), if_pos rfl, e1]
            exact up_eq.trans hR.symm
  have loop1 : ∀ (z i : Nat), i + z = 8 → ∀ (H : Heap) (locs : List Loc) (ls : Array Slot), lv_has ls 3 [(2, .int (nI i)), (0, .ref (base + k)), (1, .int fl)] → LZ D base A s.heap (n + 9 + i) (lnF w base n k d f i 0) H locs →
      W p l e R s m args below meth c H locs (9 + i) (140 + 8 * i) (MQ below (QL D base (n + 17 + 30 * d) (lnF w base n k d f 8 30) A) args s (17 + 30 * d) (204 + 30 * u) A) (F0 m 71 ls []) := by
    intro z
    induction z with
    | zero =>
      intro i hi H locs ls hl hZ
      have hi : i = 8 := by omega
      subst hi
      refine lv_iload_n hx hb dX1_init_71 rfl (lv_at hl 0 rfl) ?_
      refine lv_aload_n hx hb dX1_init_72 rfl (lv_at hl 1 rfl) ?_
      refine l_get K0 hK hZ (q0 := k) (by omega) rfl (ci := 3) (hLk 8 0) (C := RX1) (T := TX1) (N := 10) rfl iX1 0 (by decide) q212 (v := .ref (base + n)) rfl dX1_init_73 ?_
      refine l_alen K0 hK hZ (q0 := n) (by omega) rfl (hLn 8 0) (t0 := 2) rfl (v := 8) rfl dX1_init_76 ?_
      refine lv_icmp_ge (tgt := 99) hx hb dX1_init_77 (by decide) (fun hc => ?_) (fun hc => absurd (by decide +kernel : (8 : Int32) ≤ nI 8) hc)
      refine lv_iconst (v := (0)) hx hb dX1_init_99 (by decide +kernel) ?_
      refine lv_istore_n (lv' := [(2, .int 0), (0, .ref (base + k)), (1, .int fl)]) hx hb dX1_init_100 rfl hl (by decide) rfl (fun ls hl => ?_)
      exact loop2 30 0 rfl H locs ls hl hZ
    | succ z ih =>
      intro i hi H locs ls hl hZ
      have hi8 : i < 8 := by omega
      obtain ⟨w1, w2, w3, w4⟩ := nI_8 i hi8
      refine lv_iload_n hx hb dX1_init_71 rfl (lv_at hl 0 rfl) ?_
      refine lv_aload_n hx hb dX1_init_72 rfl (lv_at hl 1 rfl) ?_
      refine l_get K0 hK hZ (q0 := k) (by omega) rfl (ci := 3) (hLk i 0) (C := RX1) (T := TX1) (N := 10) rfl iX1 0 (by decide) q212 (v := .ref (base + n)) rfl dX1_init_73 ?_
      refine l_alen K0 hK hZ (q0 := n) (by omega) rfl (hLn i 0) (t0 := 2) rfl (v := 8) rfl dX1_init_76 ?_
      refine lv_icmp_ge (tgt := 99) hx hb dX1_init_77 (by decide) (fun hc => absurd hc w1) (fun hc => ?_)
      refine lv_aload_n hx hb dX1_init_80 rfl (lv_at hl 1 rfl) ?_
      refine l_get K0 hK hZ (q0 := k) (by omega) rfl (ci := 3) (hLk i 0) (C := RX1) (T := TX1) (N := 10) rfl iX1 0 (by decide) q212 (v := .ref (base + n)) rfl dX1_init_81 ?_
      refine lv_iload_n hx hb dX1_init_84 rfl (lv_at hl 0 rfl) ?_
      refine l_new K0 hK hA hZ (C := RX3) (T := TX3) (N := 8) (ci := 5) iX3 tyX3 tyX3_ok q78 q98 q43 rfl (fs := [.int 0, .int 0, .int 0, .int 0, .int 0, .int 0, .int 0, .long 0]) (fun j hj => by rcases j with _ | _ | _ | _ | _ | _ | _ | _ | j <;> first | rfl | omega) (by omega) (by omega) dX1_init_85 (fun H hZ => ?_)
      refine lv_dup hx hb dX1_init_88 rfl ?_
      refine l_callN (As := []) K0 ENVC.ok hEV.1 hA (c_X3_init l D w aS sk sv A base (n + 9 + i + 1) (n + 9 + i) _ (by omega) up_eq) (nw3 hEV.1) q100 q43 q101 rfl (by decide +kernel) ⟨by omega, by omega⟩ ⟨by omega, by omega⟩ hZ hl.1 rfl (by simp [vc_r, vc_i]) dX1_init_89 (fun H locs hZ => ?_)
      refine l_astq K0 hK hZ (q0 := n) (t0 := 2) (qk := n + 9 + i) (ci := 5) (r := (RX3, TX3, 8)) (by omega) rfl (((up_ne (by omega)).trans (up_ne (by omega))).trans (hLn i 0)) rfl (by omega) rfl up_eq rfl w3 dX1_init_92 (fun H locs hZ => ?_)
      refine lv_iinc (v := nI (i + 1)) (lv' := [(2, .int (nI (i + 1))), (0, .ref (base + k)), (1, .int fl)]) hx hb dX1_init_93 hl (k := 0) rfl w2 (by decide) rfl (fun ls hl => ?_)
      refine lv_goto (tgt := 71) hx hb dX1_init_96 (by decide) ?_
      refine ih (i + 1) (by omega) H locs ls hl (LZ.congr (fun j hj => ?_) hZ)
      by_cases hjn : j = n
      · subst hjn
        rw [up_eq, hLn, w4]
        have hfn : va_up (fun j_1 => if j_1 < i then some (base + (j + 9 + j_1)) else none) i (some (base + (j + 9 + i))) = (fun j_1 => if j_1 < i + 1 then some (base + (j + 9 + j_1)) else none) := by
          funext q
          unfold va_up
          by_cases hq : q = i
          · subst hq; rw [if_pos rfl, if_pos (by omega)]
          · rw [if_neg hq]
            show (if q < i then some (base + (j + 9 + q)) else none) = _
            by_cases hq2 : q < i
            · rw [if_pos hq2, if_pos (by omega)]
            · rw [if_neg hq2, if_neg (by omega)]
        rw [hfn]
      · rw [up_ne hjn]
        by_cases hj9 : j = n + 9 + i
        · subst hj9
          rw [up_eq]
          unfold lnF
          rw [if_neg (by omega), if_neg hjn, if_neg (by omega), if_neg (by omega), if_neg (by omega), if_pos (by omega)]
          rfl
        · rw [up_ne hj9, up_ne hj9]
          unfold lnF
          simp only [if_neg hjn]
  refine lv_iconst (v := (0)) hx hb dX1_init_69 (by decide +kernel) ?_
  refine lv_istore_n (lv' := [(2, .int 0), (0, .ref (base + k)), (1, .int fl)]) hx hb dX1_init_70 rfl hl (by decide) rfl (fun ls hl => ?_)
  exact loop1 8 0 rfl H _ ls hl hZ
