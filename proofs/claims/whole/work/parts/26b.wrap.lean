/-! part 26b: the law's own methods, one by one -/
section WROW
variable {p : Program} {l : Launch} {e : Env} {R : Room} {s : State} {m : MethodId} {args : Array Value} {below : List Frame} {meth : Method} {c : Code} {H : Heap} {locs : List Loc} {cells slots : Nat} {Q : State → Prop}
variable {cc : ByteArray} {pc nL : Nat} {ls : Array Slot} {rest : List Value} {own : String} {S : St} {D : va_G} {w : Wc} {A : Nat → Prop} {ρ : Type} {o : Nat} {cJ : ClassId} {conv : ρ → Value} {code : String → Int32} {E0 : (ρ ⊕ String) × St}
theorem o_last (K0 : CallFix p m c cc nL s args GW own) (harr : ArrOfT s cJ .long) (hAo : ¬ A o) (hPC : PC D w A S H) {v0 : Value} (ho : H[o]? = some (arrV cJ 1 (fun _ => v0))) (hS : va_S A s.heap H locs) {x : Int64} (hdg : decode cc pc = .ok (.lastore, 1))
    (kk : ∀ (H' : Heap) (locs' : List Loc), PC D w A S H' → H'[o]? = some (arrV cJ 1 (fun _ => .long x)) → va_S (fun q => A q ∨ q = o) s.heap H' locs' → W p l e R s m args below meth c H' locs' cells slots Q (F0 m (pc + 1) ls rest)) : W p l e R s m args below meth c H locs cells slots Q (F0 m pc ls (.long x :: .int 0 :: .ref o :: rest)) := by
  have hS2 : va_S (fun q => A q ∨ q = o) s.heap H locs := ⟨hS.1, fun q g1 g2 => hS.2.1 q g1 (fun h => g2 (Or.inl h)), fun q hq => Or.inl (hS.2.2 q hq)⟩
  refine W.last K0.1 K0.2.1 ho (harr 1 _) (fun q => by cases q) (by rw [arrV_size]; decide) rfl rfl hdg fun H1 e1 z oq => ?_
  refine kk H1 _ ⟨z.trans hPC.1, hPC.2.1.kept (fun k q hq => oq q.1 (fun h => hAo (h ▸ hPC.2.2.2 k q hq))), hPC.2.2⟩ ?_ (hS2.put z oq (Or.inr rfl))
  rw [e1, arrV_store]
  refine congrArg some (arrV_cg fun j hj => ?_)
  have hj0 : j = 0 := by omega
  subst hj0
  rfl
theorem o_dast (K0 : CallFix p m c cc nL s args GW own) (harr : ArrOfT s cJ .double) (hAo : ¬ A o) (hPC : PC D w A S H) {v0 : Value} (ho : H[o]? = some (arrV cJ 1 (fun _ => v0))) (hS : va_S A s.heap H locs) {x : UInt64} (hdg : decode cc pc = .ok (.dastore, 1))
    (kk : ∀ (H' : Heap) (locs' : List Loc), PC D w A S H' → H'[o]? = some (arrV cJ 1 (fun _ => .double x)) → va_S (fun q => A q ∨ q = o) s.heap H' locs' → W p l e R s m args below meth c H' locs' cells slots Q (F0 m (pc + 1) ls rest)) : W p l e R s m args below meth c H locs cells slots Q (F0 m pc ls (.double x :: .int 0 :: .ref o :: rest)) := by
  have hS2 : va_S (fun q => A q ∨ q = o) s.heap H locs := ⟨hS.1, fun q g1 g2 => hS.2.1 q g1 (fun h => g2 (Or.inl h)), fun q hq => Or.inl (hS.2.2 q hq)⟩
  refine W.dast K0.1 K0.2.1 ho (harr 1 _) (fun q => by cases q) (by rw [arrV_size]; decide) rfl rfl hdg fun H1 e1 z oq => ?_
  refine kk H1 _ ⟨z.trans hPC.1, hPC.2.1.kept (fun k q hq => oq q.1 (fun h => hAo (h ▸ hPC.2.2.2 k q hq))), hPC.2.2⟩ ?_ (hS2.put z oq (Or.inr rfl))
  rw [e1, arrV_store]
  refine congrArg some (arrV_cg fun j hj => ?_)
  have hj0 : j = 0 := by omega
  subst hj0
  rfl
theorem o_end0 (K0 : CallFix p m c cc nL s args GW own) (hr : meth.sig.returnType = some .int) (hlocks : meth.locks = false) {r : ρ} (hE : E0.1 = .inl r) (hPC : PC D w A E0.2 H) (ho : H[o]? = some (arrV cJ 1 (fun _ => conv r))) (hS : va_S (fun q => A q ∨ q = o) s.heap H locs) (hdg : decode cc pc = .ok (.ireturn, 1)) :
    W p l e R s m args below meth c H locs cells slots (MQ below (OQ E0 D w A o cJ conv code) args s cells slots (fun q => A q ∨ q = o)) (F0 m pc ls [.int 0]) :=
  W.iret K0.1 K0.2.1 hr (fun t ht _ => ⟨0, conv r, rfl, by rw [ht]; exact ho, hS.F ht, by rw [hE]; exact ⟨rfl, rfl, by rw [ht]; exact hPC⟩⟩) hS.2.2 hdg hlocks
theorem o_endX (K0 : CallFix p m c cc nL s args GW own) (hr : meth.sig.returnType = some .int) (hlocks : meth.locks = false) {X : String} {k : Int32} {v0 : Value} (hE : E0.1 = .inr X) (hk : code X = k) (hPC : PCx D w A E0.2 H) (ho : H[o]? = some (arrV cJ 1 (fun _ => v0))) (hS : va_S A s.heap H locs) (hdg : decode cc pc = .ok (.ireturn, 1)) :
    W p l e R s m args below meth c H locs cells slots (MQ below (OQ E0 D w A o cJ conv code) args s cells slots (fun q => A q ∨ q = o)) (F0 m pc ls [.int k]) := by
  have hS2 : va_S (fun q => A q ∨ q = o) s.heap H locs := ⟨hS.1, fun q g1 g2 => hS.2.1 q g1 (fun h => g2 (Or.inl h)), fun q hq => Or.inl (hS.2.2 q hq)⟩
  exact W.iret K0.1 K0.2.1 hr (fun t ht _ => ⟨k, v0, rfl, by rw [ht]; exact ho, hS2.F ht, by rw [hE]; exact ⟨hk.symm, by rw [ht]; exact hPC⟩⟩) hS2.2.2 hdg hlocks
end WROW
def exCode (t : List (String × Int32)) (X : String) : Int32 := match t with
  | [] => 0
  | (n, k) :: r => if X = n then k else exCode r X
set_option maxHeartbeats 4000000 in
set_option maxRecDepth 100000 in
theorem c_L_addStation (l : Launch) (hfl : l.stackTraces = false) (D : va_G) (w : Wc) (aS : Nat → Nat) (sk sv : Nat) (A : Nat → Prop) (o : Nat) (cJ : ClassId) (a1 : Int32) (a2 : Int32) (a3 : Int32) (a4 : Int32) : CO l yL_addStation cL_addStation 7 [(0, 14, 17, 13), (0, 14, 21, 15)] 7 124 D w (ENVO D w aS sk sv A cJ .long) A o cJ [.ref (w.2.2.2.2 0), .int a1, .int a2, .int a3, .int a4, .ref o] (f_X5_addStation 0 a1 a2 a3 a4) (fun r : Int32 => .long r.toInt64) (exCode [("java/lang/IllegalArgumentException", 1), ("java/lang/IllegalStateException", 2)]) ["java/lang/IllegalArgumentException", "java/lang/IllegalStateException"] := by
  refine CO.ofW (by decide) [(0, .ref (w.2.2.2.2 0)), (1, .int a1), (2, .int a2), (3, .int a3), (4, .int a4), (5, .ref o)] (by simp [lv_args, vr_cat, vc_i, vc_j, vc_f, vc_d, vc_r, vc_n]) (by simp [lg_sl, vr_cat, vc_i, vc_j, vc_f, vc_d, vc_r, vc_n]) ?_
  intro S0 E0 R p e s m args below meth c ls hf hex hRf hRl hRc K0 htab hr hlocks hEV hA hAo hOP hl
  have K0 : CallFix p m c cL_addStation 7 s args GW RL := K0
  have hx := K0.1
  have hb := K0.2.1
  have hown := K0.2.2.2.1
  have hg := K0.2.2.2.2
  have hK := hEV.1.1
  obtain ⟨hPC, v0, ho⟩ := hOP
  have hol : o < s.heap.size := (Array.getElem?_eq_some_iff.mp ho).1
  refine lv_aload hx hb dL_addStation_0 (lv_at hl 5 rfl) ?_
  refine lv_iconst (v := (0)) hx hb dL_addStation_2 (by decide +kernel) ?_
  refine lv_aload_n hx hb dL_addStation_3 rfl (lv_at hl 0 rfl) ?_
  refine lv_iload_n hx hb dL_addStation_4 rfl (lv_at hl 1 rfl) ?_
  refine lv_iload_n hx hb dL_addStation_5 rfl (lv_at hl 2 rfl) ?_
  refine lv_iload_n hx hb dL_addStation_6 rfl (lv_at hl 3 rfl) ?_
  refine lv_iload hx hb dL_addStation_7 (lv_at hl 4 rfl) ?_
  refine wr_call (rest := [.int 0, .ref o]) K0 hK ENVC.ok hEV.1 hA (c_X5_addStation l hfl D w aS sk sv A 0 a1 a2 a3 a4) hf q302 q303 q304 q40 q305 yd_X5_addStation ⟨by omega, by omega⟩ hRc hPC hl.1 (by rw [vr_ref (by omega)]; rfl) (by simp [vc_i, vc_r]) dL_addStation_9 (fun r H locs hE hP hS => ?_) (fun X H locs q ce hE hP hS hce hcv hcl => ?_)
  · refine W.eq (g2 := F0 m 12 ls [.int r, .int 0, .ref o]) rfl ?_
    refine lv_i2l hx hb dL_addStation_12 rfl ?_
    refine o_last K0 hEV.2.2 hAo hP ((hS.2.1 o hol hAo).trans ho) hS dL_addStation_13 (fun H locs hP ho hS => ?_)
    refine lv_goto (tgt := 25) hx hb dL_addStation_14 (by decide) ?_
    refine lv_iconst (v := (0)) hx hb dL_addStation_25 (by decide +kernel) ?_
    exact o_end0 K0 hr hlocks hE hP ho hS dL_addStation_26
  · have hX := hex X hE
    simp only [List.mem_cons, List.not_mem_nil, or_false] at hX
    rcases hX with rfl | rfl
    · refine vx_catch (own := RL) (name := "java/lang/IllegalArgumentException") hown (tableOf []) ⟨0, 14, 17, 13⟩ (tableOf [(0, 14, 21, 15)]) (by rw [htab]; rfl) (fun z hz => ?_) (by decide) (by decide) (hg _ q300) (va_Nw.use rfl (nw40 hEV.1)) hce hcv hcl ?_
      · cases hz
      · refine W.eq (g2 := F0 m 17 ls [.ref q]) rfl ?_
        refine lv_astore (lv' := [(6, .ref q), (0, .ref (w.2.2.2.2 0)), (1, .int a1), (2, .int a2), (3, .int a3), (4, .int a4), (5, .ref o)]) hx hb dL_addStation_17 hl (by decide) rfl (fun ls hl => ?_)
        refine lv_iconst (v := (1)) hx hb dL_addStation_19 (by decide +kernel) ?_
        exact o_endX K0 hr hlocks hE (by decide +kernel) hP ((hS.2.1 o hol hAo).trans ho) hS dL_addStation_20
    · refine vx_catch (own := RL) (name := "java/lang/IllegalStateException") hown (tableOf [(0, 14, 17, 13)]) ⟨0, 14, 21, 15⟩ (tableOf []) (by rw [htab]; rfl) (fun z hz => ?_) (by decide) (by decide) (hg _ q301) (va_Nw.use rfl (nw41 hEV.1)) hce hcv hcl ?_
      · simp only [tableOf, List.map_cons, List.map_nil, List.mem_cons, List.not_mem_nil, or_false] at hz
        subst hz
        exact Or.inr ⟨by decide, "java/lang/IllegalArgumentException", hg _ q300, hEV.2.1 ("java/lang/IllegalStateException", "java/lang/IllegalArgumentException") (by simp [exPairs])⟩
      · refine W.eq (g2 := F0 m 21 ls [.ref q]) rfl ?_
        refine lv_astore (lv' := [(6, .ref q), (0, .ref (w.2.2.2.2 0)), (1, .int a1), (2, .int a2), (3, .int a3), (4, .int a4), (5, .ref o)]) hx hb dL_addStation_21 hl (by decide) rfl (fun ls hl => ?_)
        refine lv_iconst (v := (2)) hx hb dL_addStation_23 (by decide +kernel) ?_
        exact o_endX K0 hr hlocks hE (by decide +kernel) hP ((hS.2.1 o hol hAo).trans ho) hS dL_addStation_24
set_option maxHeartbeats 4000000 in
set_option maxRecDepth 100000 in
theorem c_L_supply (l : Launch) (hfl : l.stackTraces = false) (D : va_G) (w : Wc) (aS : Nat → Nat) (sk sv : Nat) (A : Nat → Prop) (o : Nat) (cJ : ClassId) (a1 : Int32) (a2 : Int32) : CO l yL_supply cL_supply 5 [(0, 10, 13, 21), (0, 10, 17, 13), (0, 10, 21, 15)] 8 142 D w (ENVO D w aS sk sv A cJ .long) A o cJ [.ref (w.2.2.2.2 0), .int a1, .int a2, .ref o] (f_X5_supply 0 a1 a2) (fun r : Int32 => .long r.toInt64) (exCode [("java/util/NoSuchElementException", 1), ("java/lang/IllegalArgumentException", 2), ("java/lang/IllegalStateException", 3)]) ["java/util/NoSuchElementException", "java/lang/IllegalArgumentException", "java/lang/IllegalStateException"] := by
  refine CO.ofW (by decide) [(0, .ref (w.2.2.2.2 0)), (1, .int a1), (2, .int a2), (3, .ref o)] (by simp [lv_args, vr_cat, vc_i, vc_j, vc_f, vc_d, vc_r, vc_n]) (by simp [lg_sl, vr_cat, vc_i, vc_j, vc_f, vc_d, vc_r, vc_n]) ?_
  intro S0 E0 R p e s m args below meth c ls hf hex hRf hRl hRc K0 htab hr hlocks hEV hA hAo hOP hl
  have K0 : CallFix p m c cL_supply 5 s args GW RL := K0
  have hx := K0.1
  have hb := K0.2.1
  have hown := K0.2.2.2.1
  have hg := K0.2.2.2.2
  have hK := hEV.1.1
  obtain ⟨hPC, v0, ho⟩ := hOP
  have hol : o < s.heap.size := (Array.getElem?_eq_some_iff.mp ho).1
  refine lv_aload_n hx hb dL_supply_0 rfl (lv_at hl 3 rfl) ?_
  refine lv_iconst (v := (0)) hx hb dL_supply_1 (by decide +kernel) ?_
  refine lv_aload_n hx hb dL_supply_2 rfl (lv_at hl 0 rfl) ?_
  refine lv_iload_n hx hb dL_supply_3 rfl (lv_at hl 1 rfl) ?_
  refine lv_iload_n hx hb dL_supply_4 rfl (lv_at hl 2 rfl) ?_
  refine wr_call (rest := [.int 0, .ref o]) K0 hK ENVC.ok hEV.1 hA (c_X5_supply l hfl D w aS sk sv A 0 a1 a2) hf q411 q412 q413 q40 q414 yd_X5_supply ⟨by omega, by omega⟩ hRc hPC hl.1 (by rw [vr_ref (by omega)]; rfl) (by simp [vc_i, vc_r]) dL_supply_5 (fun r H locs hE hP hS => ?_) (fun X H locs q ce hE hP hS hce hcv hcl => ?_)
  · refine W.eq (g2 := F0 m 8 ls [.int r, .int 0, .ref o]) rfl ?_
    refine lv_i2l hx hb dL_supply_8 rfl ?_
    refine o_last K0 hEV.2.2 hAo hP ((hS.2.1 o hol hAo).trans ho) hS dL_supply_9 (fun H locs hP ho hS => ?_)
    refine lv_goto (tgt := 25) hx hb dL_supply_10 (by decide) ?_
    refine lv_iconst (v := (0)) hx hb dL_supply_25 (by decide +kernel) ?_
    exact o_end0 K0 hr hlocks hE hP ho hS dL_supply_26
  · have hX := hex X hE
    simp only [List.mem_cons, List.not_mem_nil, or_false] at hX
    rcases hX with rfl | rfl | rfl
    · refine vx_catch (own := RL) (name := "java/util/NoSuchElementException") hown (tableOf []) ⟨0, 10, 13, 21⟩ (tableOf [(0, 10, 17, 13), (0, 10, 21, 15)]) (by rw [htab]; rfl) (fun z hz => ?_) (by decide) (by decide) (hg _ q410) (va_Nw.use rfl (nw42 hEV.1)) hce hcv hcl ?_
      · cases hz
      · refine W.eq (g2 := F0 m 13 ls [.ref q]) rfl ?_
        refine lv_astore (lv' := [(4, .ref q), (0, .ref (w.2.2.2.2 0)), (1, .int a1), (2, .int a2), (3, .ref o)]) hx hb dL_supply_13 hl (by decide) rfl (fun ls hl => ?_)
        refine lv_iconst (v := (1)) hx hb dL_supply_15 (by decide +kernel) ?_
        exact o_endX K0 hr hlocks hE (by decide +kernel) hP ((hS.2.1 o hol hAo).trans ho) hS dL_supply_16
    · refine vx_catch (own := RL) (name := "java/lang/IllegalArgumentException") hown (tableOf [(0, 10, 13, 21)]) ⟨0, 10, 17, 13⟩ (tableOf [(0, 10, 21, 15)]) (by rw [htab]; rfl) (fun z hz => ?_) (by decide) (by decide) (hg _ q300) (va_Nw.use rfl (nw40 hEV.1)) hce hcv hcl ?_
      · simp only [tableOf, List.map_cons, List.map_nil, List.mem_cons, List.not_mem_nil, or_false] at hz
        subst hz
        exact Or.inr ⟨by decide, "java/util/NoSuchElementException", hg _ q410, hEV.2.1 ("java/lang/IllegalArgumentException", "java/util/NoSuchElementException") (by simp [exPairs])⟩
      · refine W.eq (g2 := F0 m 17 ls [.ref q]) rfl ?_
        refine lv_astore (lv' := [(4, .ref q), (0, .ref (w.2.2.2.2 0)), (1, .int a1), (2, .int a2), (3, .ref o)]) hx hb dL_supply_17 hl (by decide) rfl (fun ls hl => ?_)
        refine lv_iconst (v := (2)) hx hb dL_supply_19 (by decide +kernel) ?_
        exact o_endX K0 hr hlocks hE (by decide +kernel) hP ((hS.2.1 o hol hAo).trans ho) hS dL_supply_20
    · refine vx_catch (own := RL) (name := "java/lang/IllegalStateException") hown (tableOf [(0, 10, 13, 21), (0, 10, 17, 13)]) ⟨0, 10, 21, 15⟩ (tableOf []) (by rw [htab]; rfl) (fun z hz => ?_) (by decide) (by decide) (hg _ q301) (va_Nw.use rfl (nw41 hEV.1)) hce hcv hcl ?_
      · simp only [tableOf, List.map_cons, List.map_nil, List.mem_cons, List.not_mem_nil, or_false] at hz
        rcases hz with rfl | rfl
        · exact Or.inr ⟨by decide, "java/util/NoSuchElementException", hg _ q410, hEV.2.1 ("java/lang/IllegalStateException", "java/util/NoSuchElementException") (by simp [exPairs])⟩
        · exact Or.inr ⟨by decide, "java/lang/IllegalArgumentException", hg _ q300, hEV.2.1 ("java/lang/IllegalStateException", "java/lang/IllegalArgumentException") (by simp [exPairs])⟩
      · refine W.eq (g2 := F0 m 21 ls [.ref q]) rfl ?_
        refine lv_astore (lv' := [(4, .ref q), (0, .ref (w.2.2.2.2 0)), (1, .int a1), (2, .int a2), (3, .ref o)]) hx hb dL_supply_21 hl (by decide) rfl (fun ls hl => ?_)
        refine lv_iconst (v := (3)) hx hb dL_supply_23 (by decide +kernel) ?_
        exact o_endX K0 hr hlocks hE (by decide +kernel) hP ((hS.2.1 o hol hAo).trans ho) hS dL_supply_24
set_option maxHeartbeats 4000000 in
set_option maxRecDepth 100000 in
theorem c_L_setPeriod (l : Launch) (hfl : l.stackTraces = false) (D : va_G) (w : Wc) (aS : Nat → Nat) (sk sv : Nat) (A : Nat → Prop) (o : Nat) (cJ : ClassId) (a1 : Int32) : CO l yL_setPeriod cL_setPeriod 4 [(0, 9, 12, 13)] 7 122 D w (ENVO D w aS sk sv A cJ .long) A o cJ [.ref (w.2.2.2.2 0), .int a1, .ref o] (f_X5_setPeriod 0 a1) (fun r : Int32 => .long r.toInt64) (exCode [("java/lang/IllegalArgumentException", 1)]) ["java/lang/IllegalArgumentException"] := by
  refine CO.ofW (by decide) [(0, .ref (w.2.2.2.2 0)), (1, .int a1), (2, .ref o)] (by simp [lv_args, vr_cat, vc_i, vc_j, vc_f, vc_d, vc_r, vc_n]) (by simp [lg_sl, vr_cat, vc_i, vc_j, vc_f, vc_d, vc_r, vc_n]) ?_
  intro S0 E0 R p e s m args below meth c ls hf hex hRf hRl hRc K0 htab hr hlocks hEV hA hAo hOP hl
  have K0 : CallFix p m c cL_setPeriod 4 s args GW RL := K0
  have hx := K0.1
  have hb := K0.2.1
  have hown := K0.2.2.2.1
  have hg := K0.2.2.2.2
  have hK := hEV.1.1
  obtain ⟨hPC, v0, ho⟩ := hOP
  have hol : o < s.heap.size := (Array.getElem?_eq_some_iff.mp ho).1
  refine lv_aload_n hx hb dL_setPeriod_0 rfl (lv_at hl 2 rfl) ?_
  refine lv_iconst (v := (0)) hx hb dL_setPeriod_1 (by decide +kernel) ?_
  refine lv_aload_n hx hb dL_setPeriod_2 rfl (lv_at hl 0 rfl) ?_
  refine lv_iload_n hx hb dL_setPeriod_3 rfl (lv_at hl 1 rfl) ?_
  refine wr_call (rest := [.int 0, .ref o]) K0 hK ENVC.ok hEV.1 hA (c_X5_setPeriod l hfl D w aS sk sv A 0 a1) hf q447 q448 q449 q40 q450 yd_X5_setPeriod ⟨by omega, by omega⟩ hRc hPC hl.1 (by rw [vr_ref (by omega)]; rfl) (by simp [vc_i, vc_r]) dL_setPeriod_4 (fun r H locs hE hP hS => ?_) (fun X H locs q ce hE hP hS hce hcv hcl => ?_)
  · refine W.eq (g2 := F0 m 7 ls [.int r, .int 0, .ref o]) rfl ?_
    refine lv_i2l hx hb dL_setPeriod_7 rfl ?_
    refine o_last K0 hEV.2.2 hAo hP ((hS.2.1 o hol hAo).trans ho) hS dL_setPeriod_8 (fun H locs hP ho hS => ?_)
    refine lv_goto (tgt := 15) hx hb dL_setPeriod_9 (by decide) ?_
    refine lv_iconst (v := (0)) hx hb dL_setPeriod_15 (by decide +kernel) ?_
    exact o_end0 K0 hr hlocks hE hP ho hS dL_setPeriod_16
  · have hX := hex X hE
    simp only [List.mem_cons, List.not_mem_nil, or_false] at hX
    subst hX
    refine vx_catch (own := RL) (name := "java/lang/IllegalArgumentException") hown (tableOf []) ⟨0, 9, 12, 13⟩ (tableOf []) (by rw [htab]; rfl) (fun z hz => ?_) (by decide) (by decide) (hg _ q300) (va_Nw.use rfl (nw40 hEV.1)) hce hcv hcl ?_
    · cases hz
    · refine W.eq (g2 := F0 m 12 ls [.ref q]) rfl ?_
      refine lv_astore_n (i := 3) (lv' := [(3, .ref q), (0, .ref (w.2.2.2.2 0)), (1, .int a1), (2, .ref o)]) hx hb dL_setPeriod_12 rfl hl (by decide) rfl (fun ls hl => ?_)
      refine lv_iconst (v := (1)) hx hb dL_setPeriod_13 (by decide +kernel) ?_
      exact o_endX K0 hr hlocks hE (by decide +kernel) hP ((hS.2.1 o hol hAo).trans ho) hS dL_setPeriod_14
set_option maxHeartbeats 4000000 in
set_option maxRecDepth 100000 in
theorem c_L_addCar (l : Launch) (hfl : l.stackTraces = false) (D : va_G) (w : Wc) (aS : Nat → Nat) (sk sv : Nat) (A : Nat → Prop) (o : Nat) (cJ : ClassId) (a1 : Int32) : CO l yL_addCar cL_addCar 4 [(0, 9, 12, 13), (0, 9, 15, 15)] 7 121 D w (ENVO D w aS sk sv A cJ .long) A o cJ [.ref (w.2.2.2.2 0), .int a1, .ref o] (f_X5_addCar 0 a1) (fun r : Int32 => .long r.toInt64) (exCode [("java/lang/IllegalArgumentException", 1), ("java/lang/IllegalStateException", 2)]) ["java/lang/IllegalArgumentException", "java/lang/IllegalStateException"] := by
  refine CO.ofW (by decide) [(0, .ref (w.2.2.2.2 0)), (1, .int a1), (2, .ref o)] (by simp [lv_args, vr_cat, vc_i, vc_j, vc_f, vc_d, vc_r, vc_n]) (by simp [lg_sl, vr_cat, vc_i, vc_j, vc_f, vc_d, vc_r, vc_n]) ?_
  intro S0 E0 R p e s m args below meth c ls hf hex hRf hRl hRc K0 htab hr hlocks hEV hA hAo hOP hl
  have K0 : CallFix p m c cL_addCar 4 s args GW RL := K0
  have hx := K0.1
  have hb := K0.2.1
  have hown := K0.2.2.2.1
  have hg := K0.2.2.2.2
  have hK := hEV.1.1
  obtain ⟨hPC, v0, ho⟩ := hOP
  have hol : o < s.heap.size := (Array.getElem?_eq_some_iff.mp ho).1
  refine lv_aload_n hx hb dL_addCar_0 rfl (lv_at hl 2 rfl) ?_
  refine lv_iconst (v := (0)) hx hb dL_addCar_1 (by decide +kernel) ?_
  refine lv_aload_n hx hb dL_addCar_2 rfl (lv_at hl 0 rfl) ?_
  refine lv_iload_n hx hb dL_addCar_3 rfl (lv_at hl 1 rfl) ?_
  refine wr_call (rest := [.int 0, .ref o]) K0 hK ENVC.ok hEV.1 hA (c_X5_addCar l hfl D w aS sk sv A 0 a1) hf q455 q456 q457 q40 q458 yd_X5_addCar ⟨by omega, by omega⟩ hRc hPC hl.1 (by rw [vr_ref (by omega)]; rfl) (by simp [vc_i, vc_r]) dL_addCar_4 (fun r H locs hE hP hS => ?_) (fun X H locs q ce hE hP hS hce hcv hcl => ?_)
  · refine W.eq (g2 := F0 m 7 ls [.int r, .int 0, .ref o]) rfl ?_
    refine lv_i2l hx hb dL_addCar_7 rfl ?_
    refine o_last K0 hEV.2.2 hAo hP ((hS.2.1 o hol hAo).trans ho) hS dL_addCar_8 (fun H locs hP ho hS => ?_)
    refine lv_goto (tgt := 18) hx hb dL_addCar_9 (by decide) ?_
    refine lv_iconst (v := (0)) hx hb dL_addCar_18 (by decide +kernel) ?_
    exact o_end0 K0 hr hlocks hE hP ho hS dL_addCar_19
  · have hX := hex X hE
    simp only [List.mem_cons, List.not_mem_nil, or_false] at hX
    rcases hX with rfl | rfl
    · refine vx_catch (own := RL) (name := "java/lang/IllegalArgumentException") hown (tableOf []) ⟨0, 9, 12, 13⟩ (tableOf [(0, 9, 15, 15)]) (by rw [htab]; rfl) (fun z hz => ?_) (by decide) (by decide) (hg _ q300) (va_Nw.use rfl (nw40 hEV.1)) hce hcv hcl ?_
      · cases hz
      · refine W.eq (g2 := F0 m 12 ls [.ref q]) rfl ?_
        refine lv_astore_n (i := 3) (lv' := [(3, .ref q), (0, .ref (w.2.2.2.2 0)), (1, .int a1), (2, .ref o)]) hx hb dL_addCar_12 rfl hl (by decide) rfl (fun ls hl => ?_)
        refine lv_iconst (v := (1)) hx hb dL_addCar_13 (by decide +kernel) ?_
        exact o_endX K0 hr hlocks hE (by decide +kernel) hP ((hS.2.1 o hol hAo).trans ho) hS dL_addCar_14
    · refine vx_catch (own := RL) (name := "java/lang/IllegalStateException") hown (tableOf [(0, 9, 12, 13)]) ⟨0, 9, 15, 15⟩ (tableOf []) (by rw [htab]; rfl) (fun z hz => ?_) (by decide) (by decide) (hg _ q301) (va_Nw.use rfl (nw41 hEV.1)) hce hcv hcl ?_
      · simp only [tableOf, List.map_cons, List.map_nil, List.mem_cons, List.not_mem_nil, or_false] at hz
        subst hz
        exact Or.inr ⟨by decide, "java/lang/IllegalArgumentException", hg _ q300, hEV.2.1 ("java/lang/IllegalStateException", "java/lang/IllegalArgumentException") (by simp [exPairs])⟩
      · refine W.eq (g2 := F0 m 15 ls [.ref q]) rfl ?_
        refine lv_astore_n (i := 3) (lv' := [(3, .ref q), (0, .ref (w.2.2.2.2 0)), (1, .int a1), (2, .ref o)]) hx hb dL_addCar_15 rfl hl (by decide) rfl (fun ls hl => ?_)
        refine lv_iconst (v := (2)) hx hb dL_addCar_16 (by decide +kernel) ?_
        exact o_endX K0 hr hlocks hE (by decide +kernel) hP ((hS.2.1 o hol hAo).trans ho) hS dL_addCar_17
set_option maxHeartbeats 4000000 in
set_option maxRecDepth 100000 in
theorem c_L_swap (l : Launch) (hfl : l.stackTraces = false) (D : va_G) (w : Wc) (aS : Nat → Nat) (sk sv : Nat) (A : Nat → Prop) (o : Nat) (cJ : ClassId) (a1 : Int32) (a2 : Int32) : CO l yL_swap cL_swap 5 [(0, 10, 13, 21), (0, 10, 17, 13), (0, 10, 21, 15)] 8 147 D w (ENVO D w aS sk sv A cJ .long) A o cJ [.ref (w.2.2.2.2 0), .int a1, .int a2, .ref o] (f_X5_swap 0 a1 a2) (fun r : Int32 => .long r.toInt64) (exCode [("java/util/NoSuchElementException", 1), ("java/lang/IllegalArgumentException", 2), ("java/lang/IllegalStateException", 3)]) ["java/util/NoSuchElementException", "java/lang/IllegalArgumentException", "java/lang/IllegalStateException"] := by
  refine CO.ofW (by decide) [(0, .ref (w.2.2.2.2 0)), (1, .int a1), (2, .int a2), (3, .ref o)] (by simp [lv_args, vr_cat, vc_i, vc_j, vc_f, vc_d, vc_r, vc_n]) (by simp [lg_sl, vr_cat, vc_i, vc_j, vc_f, vc_d, vc_r, vc_n]) ?_
  intro S0 E0 R p e s m args below meth c ls hf hex hRf hRl hRc K0 htab hr hlocks hEV hA hAo hOP hl
  have K0 : CallFix p m c cL_swap 5 s args GW RL := K0
  have hx := K0.1
  have hb := K0.2.1
  have hown := K0.2.2.2.1
  have hg := K0.2.2.2.2
  have hK := hEV.1.1
  obtain ⟨hPC, v0, ho⟩ := hOP
  have hol : o < s.heap.size := (Array.getElem?_eq_some_iff.mp ho).1
  refine lv_aload_n hx hb dL_swap_0 rfl (lv_at hl 3 rfl) ?_
  refine lv_iconst (v := (0)) hx hb dL_swap_1 (by decide +kernel) ?_
  refine lv_aload_n hx hb dL_swap_2 rfl (lv_at hl 0 rfl) ?_
  refine lv_iload_n hx hb dL_swap_3 rfl (lv_at hl 1 rfl) ?_
  refine lv_iload_n hx hb dL_swap_4 rfl (lv_at hl 2 rfl) ?_
  refine wr_call (rest := [.int 0, .ref o]) K0 hK ENVC.ok hEV.1 hA (c_X5_swap l hfl D w aS sk sv A 0 a1 a2) hf q476 q477 q478 q40 q479 yd_X5_swap ⟨by omega, by omega⟩ hRc hPC hl.1 (by rw [vr_ref (by omega)]; rfl) (by simp [vc_i, vc_r]) dL_swap_5 (fun r H locs hE hP hS => ?_) (fun X H locs q ce hE hP hS hce hcv hcl => ?_)
  · refine W.eq (g2 := F0 m 8 ls [.int r, .int 0, .ref o]) rfl ?_
    refine lv_i2l hx hb dL_swap_8 rfl ?_
    refine o_last K0 hEV.2.2 hAo hP ((hS.2.1 o hol hAo).trans ho) hS dL_swap_9 (fun H locs hP ho hS => ?_)
    refine lv_goto (tgt := 25) hx hb dL_swap_10 (by decide) ?_
    refine lv_iconst (v := (0)) hx hb dL_swap_25 (by decide +kernel) ?_
    exact o_end0 K0 hr hlocks hE hP ho hS dL_swap_26
  · have hX := hex X hE
    simp only [List.mem_cons, List.not_mem_nil, or_false] at hX
    rcases hX with rfl | rfl | rfl
    · refine vx_catch (own := RL) (name := "java/util/NoSuchElementException") hown (tableOf []) ⟨0, 10, 13, 21⟩ (tableOf [(0, 10, 17, 13), (0, 10, 21, 15)]) (by rw [htab]; rfl) (fun z hz => ?_) (by decide) (by decide) (hg _ q410) (va_Nw.use rfl (nw42 hEV.1)) hce hcv hcl ?_
      · cases hz
      · refine W.eq (g2 := F0 m 13 ls [.ref q]) rfl ?_
        refine lv_astore (lv' := [(4, .ref q), (0, .ref (w.2.2.2.2 0)), (1, .int a1), (2, .int a2), (3, .ref o)]) hx hb dL_swap_13 hl (by decide) rfl (fun ls hl => ?_)
        refine lv_iconst (v := (1)) hx hb dL_swap_15 (by decide +kernel) ?_
        exact o_endX K0 hr hlocks hE (by decide +kernel) hP ((hS.2.1 o hol hAo).trans ho) hS dL_swap_16
    · refine vx_catch (own := RL) (name := "java/lang/IllegalArgumentException") hown (tableOf [(0, 10, 13, 21)]) ⟨0, 10, 17, 13⟩ (tableOf [(0, 10, 21, 15)]) (by rw [htab]; rfl) (fun z hz => ?_) (by decide) (by decide) (hg _ q300) (va_Nw.use rfl (nw40 hEV.1)) hce hcv hcl ?_
      · simp only [tableOf, List.map_cons, List.map_nil, List.mem_cons, List.not_mem_nil, or_false] at hz
        subst hz
        exact Or.inr ⟨by decide, "java/util/NoSuchElementException", hg _ q410, hEV.2.1 ("java/lang/IllegalArgumentException", "java/util/NoSuchElementException") (by simp [exPairs])⟩
      · refine W.eq (g2 := F0 m 17 ls [.ref q]) rfl ?_
        refine lv_astore (lv' := [(4, .ref q), (0, .ref (w.2.2.2.2 0)), (1, .int a1), (2, .int a2), (3, .ref o)]) hx hb dL_swap_17 hl (by decide) rfl (fun ls hl => ?_)
        refine lv_iconst (v := (2)) hx hb dL_swap_19 (by decide +kernel) ?_
        exact o_endX K0 hr hlocks hE (by decide +kernel) hP ((hS.2.1 o hol hAo).trans ho) hS dL_swap_20
    · refine vx_catch (own := RL) (name := "java/lang/IllegalStateException") hown (tableOf [(0, 10, 13, 21), (0, 10, 17, 13)]) ⟨0, 10, 21, 15⟩ (tableOf []) (by rw [htab]; rfl) (fun z hz => ?_) (by decide) (by decide) (hg _ q301) (va_Nw.use rfl (nw41 hEV.1)) hce hcv hcl ?_
      · simp only [tableOf, List.map_cons, List.map_nil, List.mem_cons, List.not_mem_nil, or_false] at hz
        rcases hz with rfl | rfl
        · exact Or.inr ⟨by decide, "java/util/NoSuchElementException", hg _ q410, hEV.2.1 ("java/lang/IllegalStateException", "java/util/NoSuchElementException") (by simp [exPairs])⟩
        · exact Or.inr ⟨by decide, "java/lang/IllegalArgumentException", hg _ q300, hEV.2.1 ("java/lang/IllegalStateException", "java/lang/IllegalArgumentException") (by simp [exPairs])⟩
      · refine W.eq (g2 := F0 m 21 ls [.ref q]) rfl ?_
        refine lv_astore (lv' := [(4, .ref q), (0, .ref (w.2.2.2.2 0)), (1, .int a1), (2, .int a2), (3, .ref o)]) hx hb dL_swap_21 hl (by decide) rfl (fun ls hl => ?_)
        refine lv_iconst (v := (3)) hx hb dL_swap_23 (by decide +kernel) ?_
        exact o_endX K0 hr hlocks hE (by decide +kernel) hP ((hS.2.1 o hol hAo).trans ho) hS dL_swap_24
set_option maxHeartbeats 4000000 in
set_option maxRecDepth 100000 in
theorem c_L_fault (l : Launch) (hfl : l.stackTraces = false) (D : va_G) (w : Wc) (aS : Nat → Nat) (sk sv : Nat) (A : Nat → Prop) (o : Nat) (cJ : ClassId) (a1 : Int32) (a2 : Int32) : CO l yL_fault cL_fault 5 [(0, 10, 13, 21), (0, 10, 17, 15), (0, 10, 21, 36)] 8 145 D w (ENVO D w aS sk sv A cJ .long) A o cJ [.ref (w.2.2.2.2 0), .int a1, .int a2, .ref o] (f_X5_fault 0 a1 a2) (fun r : Int32 => .long r.toInt64) (exCode [("java/util/NoSuchElementException", 1), ("java/lang/IllegalStateException", 2), ("java/lang/UnsupportedOperationException", 3)]) ["java/util/NoSuchElementException", "java/lang/IllegalStateException", "java/lang/UnsupportedOperationException"] := by
  refine CO.ofW (by decide) [(0, .ref (w.2.2.2.2 0)), (1, .int a1), (2, .int a2), (3, .ref o)] (by simp [lv_args, vr_cat, vc_i, vc_j, vc_f, vc_d, vc_r, vc_n]) (by simp [lg_sl, vr_cat, vc_i, vc_j, vc_f, vc_d, vc_r, vc_n]) ?_
  intro S0 E0 R p e s m args below meth c ls hf hex hRf hRl hRc K0 htab hr hlocks hEV hA hAo hOP hl
  have K0 : CallFix p m c cL_fault 5 s args GW RL := K0
  have hx := K0.1
  have hb := K0.2.1
  have hown := K0.2.2.2.1
  have hg := K0.2.2.2.2
  have hK := hEV.1.1
  obtain ⟨hPC, v0, ho⟩ := hOP
  have hol : o < s.heap.size := (Array.getElem?_eq_some_iff.mp ho).1
  refine lv_aload_n hx hb dL_fault_0 rfl (lv_at hl 3 rfl) ?_
  refine lv_iconst (v := (0)) hx hb dL_fault_1 (by decide +kernel) ?_
  refine lv_aload_n hx hb dL_fault_2 rfl (lv_at hl 0 rfl) ?_
  refine lv_iload_n hx hb dL_fault_3 rfl (lv_at hl 1 rfl) ?_
  refine lv_iload_n hx hb dL_fault_4 rfl (lv_at hl 2 rfl) ?_
  refine wr_call (rest := [.int 0, .ref o]) K0 hK ENVC.ok hEV.1 hA (c_X5_fault l hfl D w aS sk sv A 0 a1 a2) hf q508 q509 q510 q40 q511 yd_X5_fault ⟨by omega, by omega⟩ hRc hPC hl.1 (by rw [vr_ref (by omega)]; rfl) (by simp [vc_i, vc_r]) dL_fault_5 (fun r H locs hE hP hS => ?_) (fun X H locs q ce hE hP hS hce hcv hcl => ?_)
  · refine W.eq (g2 := F0 m 8 ls [.int r, .int 0, .ref o]) rfl ?_
    refine lv_i2l hx hb dL_fault_8 rfl ?_
    refine o_last K0 hEV.2.2 hAo hP ((hS.2.1 o hol hAo).trans ho) hS dL_fault_9 (fun H locs hP ho hS => ?_)
    refine lv_goto (tgt := 25) hx hb dL_fault_10 (by decide) ?_
    refine lv_iconst (v := (0)) hx hb dL_fault_25 (by decide +kernel) ?_
    exact o_end0 K0 hr hlocks hE hP ho hS dL_fault_26
  · have hX := hex X hE
    simp only [List.mem_cons, List.not_mem_nil, or_false] at hX
    rcases hX with rfl | rfl | rfl
    · refine vx_catch (own := RL) (name := "java/util/NoSuchElementException") hown (tableOf []) ⟨0, 10, 13, 21⟩ (tableOf [(0, 10, 17, 15), (0, 10, 21, 36)]) (by rw [htab]; rfl) (fun z hz => ?_) (by decide) (by decide) (hg _ q410) (va_Nw.use rfl (nw42 hEV.1)) hce hcv hcl ?_
      · cases hz
      · refine W.eq (g2 := F0 m 13 ls [.ref q]) rfl ?_
        refine lv_astore (lv' := [(4, .ref q), (0, .ref (w.2.2.2.2 0)), (1, .int a1), (2, .int a2), (3, .ref o)]) hx hb dL_fault_13 hl (by decide) rfl (fun ls hl => ?_)
        refine lv_iconst (v := (1)) hx hb dL_fault_15 (by decide +kernel) ?_
        exact o_endX K0 hr hlocks hE (by decide +kernel) hP ((hS.2.1 o hol hAo).trans ho) hS dL_fault_16
    · refine vx_catch (own := RL) (name := "java/lang/IllegalStateException") hown (tableOf [(0, 10, 13, 21)]) ⟨0, 10, 17, 15⟩ (tableOf [(0, 10, 21, 36)]) (by rw [htab]; rfl) (fun z hz => ?_) (by decide) (by decide) (hg _ q301) (va_Nw.use rfl (nw41 hEV.1)) hce hcv hcl ?_
      · simp only [tableOf, List.map_cons, List.map_nil, List.mem_cons, List.not_mem_nil, or_false] at hz
        subst hz
        exact Or.inr ⟨by decide, "java/util/NoSuchElementException", hg _ q410, hEV.2.1 ("java/lang/IllegalStateException", "java/util/NoSuchElementException") (by simp [exPairs])⟩
      · refine W.eq (g2 := F0 m 17 ls [.ref q]) rfl ?_
        refine lv_astore (lv' := [(4, .ref q), (0, .ref (w.2.2.2.2 0)), (1, .int a1), (2, .int a2), (3, .ref o)]) hx hb dL_fault_17 hl (by decide) rfl (fun ls hl => ?_)
        refine lv_iconst (v := (2)) hx hb dL_fault_19 (by decide +kernel) ?_
        exact o_endX K0 hr hlocks hE (by decide +kernel) hP ((hS.2.1 o hol hAo).trans ho) hS dL_fault_20
    · refine vx_catch (own := RL) (name := "java/lang/UnsupportedOperationException") hown (tableOf [(0, 10, 13, 21), (0, 10, 17, 15)]) ⟨0, 10, 21, 36⟩ (tableOf []) (by rw [htab]; rfl) (fun z hz => ?_) (by decide) (by decide) (hg _ q507) (va_Nw.use rfl (nw43 hEV.1)) hce hcv hcl ?_
      · simp only [tableOf, List.map_cons, List.map_nil, List.mem_cons, List.not_mem_nil, or_false] at hz
        rcases hz with rfl | rfl
        · exact Or.inr ⟨by decide, "java/util/NoSuchElementException", hg _ q410, hEV.2.1 ("java/lang/UnsupportedOperationException", "java/util/NoSuchElementException") (by simp [exPairs])⟩
        · exact Or.inr ⟨by decide, "java/lang/IllegalStateException", hg _ q301, hEV.2.1 ("java/lang/UnsupportedOperationException", "java/lang/IllegalStateException") (by simp [exPairs])⟩
      · refine W.eq (g2 := F0 m 21 ls [.ref q]) rfl ?_
        refine lv_astore (lv' := [(4, .ref q), (0, .ref (w.2.2.2.2 0)), (1, .int a1), (2, .int a2), (3, .ref o)]) hx hb dL_fault_21 hl (by decide) rfl (fun ls hl => ?_)
        refine lv_iconst (v := (3)) hx hb dL_fault_23 (by decide +kernel) ?_
        exact o_endX K0 hr hlocks hE (by decide +kernel) hP ((hS.2.1 o hol hAo).trans ho) hS dL_fault_24
set_option maxHeartbeats 4000000 in
set_option maxRecDepth 100000 in
theorem c_L_tick (l : Launch) (hfl : l.stackTraces = false) (D : va_G) (w : Wc) (aS : Nat → Nat) (sk sv : Nat) (A : Nat → Prop) (o : Nat) (cJ : ClassId) (a1 : Int32) : CO l yL_tick cL_tick 4 [(0, 9, 12, 13), (0, 9, 15, 15)] 10 234 D w (ENVO D w aS sk sv A cJ .long) A o cJ [.ref (w.2.2.2.2 0), .int a1, .ref o] (f_X5_tick 0 a1) (fun r : Int32 => .long r.toInt64) (exCode [("java/lang/IllegalArgumentException", 1), ("java/lang/IllegalStateException", 2)]) ["java/lang/IllegalArgumentException", "java/lang/IllegalStateException"] := by
  refine CO.ofW (by decide) [(0, .ref (w.2.2.2.2 0)), (1, .int a1), (2, .ref o)] (by simp [lv_args, vr_cat, vc_i, vc_j, vc_f, vc_d, vc_r, vc_n]) (by simp [lg_sl, vr_cat, vc_i, vc_j, vc_f, vc_d, vc_r, vc_n]) ?_
  intro S0 E0 R p e s m args below meth c ls hf hex hRf hRl hRc K0 htab hr hlocks hEV hA hAo hOP hl
  have K0 : CallFix p m c cL_tick 4 s args GW RL := K0
  have hx := K0.1
  have hb := K0.2.1
  have hown := K0.2.2.2.1
  have hg := K0.2.2.2.2
  have hK := hEV.1.1
  obtain ⟨hPC, v0, ho⟩ := hOP
  have hol : o < s.heap.size := (Array.getElem?_eq_some_iff.mp ho).1
  refine lv_aload_n hx hb dL_tick_0 rfl (lv_at hl 2 rfl) ?_
  refine lv_iconst (v := (0)) hx hb dL_tick_1 (by decide +kernel) ?_
  refine lv_aload_n hx hb dL_tick_2 rfl (lv_at hl 0 rfl) ?_
  refine lv_iload_n hx hb dL_tick_3 rfl (lv_at hl 1 rfl) ?_
  refine wr_call (rest := [.int 0, .ref o]) K0 hK ENVC.ok hEV.1 hA (c_X5_tick l hfl D w aS sk sv A 0 a1) hf q559 q560 q561 q40 q562 yd_X5_tick ⟨by omega, by omega⟩ hRc hPC hl.1 (by rw [vr_ref (by omega)]; rfl) (by simp [vc_i, vc_r]) dL_tick_4 (fun r H locs hE hP hS => ?_) (fun X H locs q ce hE hP hS hce hcv hcl => ?_)
  · refine W.eq (g2 := F0 m 7 ls [.int r, .int 0, .ref o]) rfl ?_
    refine lv_i2l hx hb dL_tick_7 rfl ?_
    refine o_last K0 hEV.2.2 hAo hP ((hS.2.1 o hol hAo).trans ho) hS dL_tick_8 (fun H locs hP ho hS => ?_)
    refine lv_goto (tgt := 18) hx hb dL_tick_9 (by decide) ?_
    refine lv_iconst (v := (0)) hx hb dL_tick_18 (by decide +kernel) ?_
    exact o_end0 K0 hr hlocks hE hP ho hS dL_tick_19
  · have hX := hex X hE
    simp only [List.mem_cons, List.not_mem_nil, or_false] at hX
    rcases hX with rfl | rfl
    · refine vx_catch (own := RL) (name := "java/lang/IllegalArgumentException") hown (tableOf []) ⟨0, 9, 12, 13⟩ (tableOf [(0, 9, 15, 15)]) (by rw [htab]; rfl) (fun z hz => ?_) (by decide) (by decide) (hg _ q300) (va_Nw.use rfl (nw40 hEV.1)) hce hcv hcl ?_
      · cases hz
      · refine W.eq (g2 := F0 m 12 ls [.ref q]) rfl ?_
        refine lv_astore_n (i := 3) (lv' := [(3, .ref q), (0, .ref (w.2.2.2.2 0)), (1, .int a1), (2, .ref o)]) hx hb dL_tick_12 rfl hl (by decide) rfl (fun ls hl => ?_)
        refine lv_iconst (v := (1)) hx hb dL_tick_13 (by decide +kernel) ?_
        exact o_endX K0 hr hlocks hE (by decide +kernel) hP ((hS.2.1 o hol hAo).trans ho) hS dL_tick_14
    · refine vx_catch (own := RL) (name := "java/lang/IllegalStateException") hown (tableOf [(0, 9, 12, 13)]) ⟨0, 9, 15, 15⟩ (tableOf []) (by rw [htab]; rfl) (fun z hz => ?_) (by decide) (by decide) (hg _ q301) (va_Nw.use rfl (nw41 hEV.1)) hce hcv hcl ?_
      · simp only [tableOf, List.map_cons, List.map_nil, List.mem_cons, List.not_mem_nil, or_false] at hz
        subst hz
        exact Or.inr ⟨by decide, "java/lang/IllegalArgumentException", hg _ q300, hEV.2.1 ("java/lang/IllegalStateException", "java/lang/IllegalArgumentException") (by simp [exPairs])⟩
      · refine W.eq (g2 := F0 m 15 ls [.ref q]) rfl ?_
        refine lv_astore_n (i := 3) (lv' := [(3, .ref q), (0, .ref (w.2.2.2.2 0)), (1, .int a1), (2, .ref o)]) hx hb dL_tick_15 rfl hl (by decide) rfl (fun ls hl => ?_)
        refine lv_iconst (v := (2)) hx hb dL_tick_16 (by decide +kernel) ?_
        exact o_endX K0 hr hlocks hE (by decide +kernel) hP ((hS.2.1 o hol hAo).trans ho) hS dL_tick_17
set_option maxHeartbeats 4000000 in
set_option maxRecDepth 100000 in
theorem c_L_stateOf (l : Launch) (hfl : l.stackTraces = false) (D : va_G) (w : Wc) (aS : Nat → Nat) (sk sv : Nat) (A : Nat → Prop) (o : Nat) (cJ : ClassId) (a1 : Int32) : CO l yL_stateOf cL_stateOf 4 [(0, 9, 12, 21)] 8 143 D w (ENVO D w aS sk sv A cJ .long) A o cJ [.ref (w.2.2.2.2 0), .int a1, .ref o] (f_X5_stateOf 0 a1) (fun r : Int32 => .long r.toInt64) (exCode [("java/util/NoSuchElementException", 1)]) ["java/util/NoSuchElementException"] := by
  refine CO.ofW (by decide) [(0, .ref (w.2.2.2.2 0)), (1, .int a1), (2, .ref o)] (by simp [lv_args, vr_cat, vc_i, vc_j, vc_f, vc_d, vc_r, vc_n]) (by simp [lg_sl, vr_cat, vc_i, vc_j, vc_f, vc_d, vc_r, vc_n]) ?_
  intro S0 E0 R p e s m args below meth c ls hf hex hRf hRl hRc K0 htab hr hlocks hEV hA hAo hOP hl
  have K0 : CallFix p m c cL_stateOf 4 s args GW RL := K0
  have hx := K0.1
  have hb := K0.2.1
  have hown := K0.2.2.2.1
  have hg := K0.2.2.2.2
  have hK := hEV.1.1
  obtain ⟨hPC, v0, ho⟩ := hOP
  have hol : o < s.heap.size := (Array.getElem?_eq_some_iff.mp ho).1
  refine lv_aload_n hx hb dL_stateOf_0 rfl (lv_at hl 2 rfl) ?_
  refine lv_iconst (v := (0)) hx hb dL_stateOf_1 (by decide +kernel) ?_
  refine lv_aload_n hx hb dL_stateOf_2 rfl (lv_at hl 0 rfl) ?_
  refine lv_iload_n hx hb dL_stateOf_3 rfl (lv_at hl 1 rfl) ?_
  refine wr_call (rest := [.int 0, .ref o]) K0 hK ENVC.ok hEV.1 hA (c_X5_stateOf l hfl D w aS sk sv A 0 a1) hf q756 q757 q758 q40 q759 yd_X5_stateOf ⟨by omega, by omega⟩ hRc hPC hl.1 (by rw [vr_ref (by omega)]; rfl) (by simp [vc_i, vc_r]) dL_stateOf_4 (fun r H locs hE hP hS => ?_) (fun X H locs q ce hE hP hS hce hcv hcl => ?_)
  · refine W.eq (g2 := F0 m 7 ls [.int r, .int 0, .ref o]) rfl ?_
    refine lv_i2l hx hb dL_stateOf_7 rfl ?_
    refine o_last K0 hEV.2.2 hAo hP ((hS.2.1 o hol hAo).trans ho) hS dL_stateOf_8 (fun H locs hP ho hS => ?_)
    refine lv_goto (tgt := 15) hx hb dL_stateOf_9 (by decide) ?_
    refine lv_iconst (v := (0)) hx hb dL_stateOf_15 (by decide +kernel) ?_
    exact o_end0 K0 hr hlocks hE hP ho hS dL_stateOf_16
  · have hX := hex X hE
    simp only [List.mem_cons, List.not_mem_nil, or_false] at hX
    subst hX
    refine vx_catch (own := RL) (name := "java/util/NoSuchElementException") hown (tableOf []) ⟨0, 9, 12, 21⟩ (tableOf []) (by rw [htab]; rfl) (fun z hz => ?_) (by decide) (by decide) (hg _ q410) (va_Nw.use rfl (nw42 hEV.1)) hce hcv hcl ?_
    · cases hz
    · refine W.eq (g2 := F0 m 12 ls [.ref q]) rfl ?_
      refine lv_astore_n (i := 3) (lv' := [(3, .ref q), (0, .ref (w.2.2.2.2 0)), (1, .int a1), (2, .ref o)]) hx hb dL_stateOf_12 rfl hl (by decide) rfl (fun ls hl => ?_)
      refine lv_iconst (v := (1)) hx hb dL_stateOf_13 (by decide +kernel) ?_
      exact o_endX K0 hr hlocks hE (by decide +kernel) hP ((hS.2.1 o hol hAo).trans ho) hS dL_stateOf_14
set_option maxHeartbeats 4000000 in
set_option maxRecDepth 100000 in
theorem c_L_stationOf (l : Launch) (hfl : l.stackTraces = false) (D : va_G) (w : Wc) (aS : Nat → Nat) (sk sv : Nat) (A : Nat → Prop) (o : Nat) (cJ : ClassId) (a1 : Int32) : CO l yL_stationOf cL_stationOf 4 [(0, 9, 12, 21), (0, 9, 15, 15)] 9 165 D w (ENVO D w aS sk sv A cJ .long) A o cJ [.ref (w.2.2.2.2 0), .int a1, .ref o] (f_X5_stationOf 0 a1) (fun r : Int32 => .long r.toInt64) (exCode [("java/util/NoSuchElementException", 1), ("java/lang/IllegalStateException", 2)]) ["java/util/NoSuchElementException", "java/lang/IllegalStateException"] := by
  refine CO.ofW (by decide) [(0, .ref (w.2.2.2.2 0)), (1, .int a1), (2, .ref o)] (by simp [lv_args, vr_cat, vc_i, vc_j, vc_f, vc_d, vc_r, vc_n]) (by simp [lg_sl, vr_cat, vc_i, vc_j, vc_f, vc_d, vc_r, vc_n]) ?_
  intro S0 E0 R p e s m args below meth c ls hf hex hRf hRl hRc K0 htab hr hlocks hEV hA hAo hOP hl
  have K0 : CallFix p m c cL_stationOf 4 s args GW RL := K0
  have hx := K0.1
  have hb := K0.2.1
  have hown := K0.2.2.2.1
  have hg := K0.2.2.2.2
  have hK := hEV.1.1
  obtain ⟨hPC, v0, ho⟩ := hOP
  have hol : o < s.heap.size := (Array.getElem?_eq_some_iff.mp ho).1
  refine lv_aload_n hx hb dL_stationOf_0 rfl (lv_at hl 2 rfl) ?_
  refine lv_iconst (v := (0)) hx hb dL_stationOf_1 (by decide +kernel) ?_
  refine lv_aload_n hx hb dL_stationOf_2 rfl (lv_at hl 0 rfl) ?_
  refine lv_iload_n hx hb dL_stationOf_3 rfl (lv_at hl 1 rfl) ?_
  refine wr_call (rest := [.int 0, .ref o]) K0 hK ENVC.ok hEV.1 hA (c_X5_stationOf l hfl D w aS sk sv A 0 a1) hf q763 q764 q765 q40 q766 yd_X5_stationOf ⟨by omega, by omega⟩ hRc hPC hl.1 (by rw [vr_ref (by omega)]; rfl) (by simp [vc_i, vc_r]) dL_stationOf_4 (fun r H locs hE hP hS => ?_) (fun X H locs q ce hE hP hS hce hcv hcl => ?_)
  · refine W.eq (g2 := F0 m 7 ls [.int r, .int 0, .ref o]) rfl ?_
    refine lv_i2l hx hb dL_stationOf_7 rfl ?_
    refine o_last K0 hEV.2.2 hAo hP ((hS.2.1 o hol hAo).trans ho) hS dL_stationOf_8 (fun H locs hP ho hS => ?_)
    refine lv_goto (tgt := 18) hx hb dL_stationOf_9 (by decide) ?_
    refine lv_iconst (v := (0)) hx hb dL_stationOf_18 (by decide +kernel) ?_
    exact o_end0 K0 hr hlocks hE hP ho hS dL_stationOf_19
  · have hX := hex X hE
    simp only [List.mem_cons, List.not_mem_nil, or_false] at hX
    rcases hX with rfl | rfl
    · refine vx_catch (own := RL) (name := "java/util/NoSuchElementException") hown (tableOf []) ⟨0, 9, 12, 21⟩ (tableOf [(0, 9, 15, 15)]) (by rw [htab]; rfl) (fun z hz => ?_) (by decide) (by decide) (hg _ q410) (va_Nw.use rfl (nw42 hEV.1)) hce hcv hcl ?_
      · cases hz
      · refine W.eq (g2 := F0 m 12 ls [.ref q]) rfl ?_
        refine lv_astore_n (i := 3) (lv' := [(3, .ref q), (0, .ref (w.2.2.2.2 0)), (1, .int a1), (2, .ref o)]) hx hb dL_stationOf_12 rfl hl (by decide) rfl (fun ls hl => ?_)
        refine lv_iconst (v := (1)) hx hb dL_stationOf_13 (by decide +kernel) ?_
        exact o_endX K0 hr hlocks hE (by decide +kernel) hP ((hS.2.1 o hol hAo).trans ho) hS dL_stationOf_14
    · refine vx_catch (own := RL) (name := "java/lang/IllegalStateException") hown (tableOf [(0, 9, 12, 21)]) ⟨0, 9, 15, 15⟩ (tableOf []) (by rw [htab]; rfl) (fun z hz => ?_) (by decide) (by decide) (hg _ q301) (va_Nw.use rfl (nw41 hEV.1)) hce hcv hcl ?_
      · simp only [tableOf, List.map_cons, List.map_nil, List.mem_cons, List.not_mem_nil, or_false] at hz
        subst hz
        exact Or.inr ⟨by decide, "java/util/NoSuchElementException", hg _ q410, hEV.2.1 ("java/lang/IllegalStateException", "java/util/NoSuchElementException") (by simp [exPairs])⟩
      · refine W.eq (g2 := F0 m 15 ls [.ref q]) rfl ?_
        refine lv_astore_n (i := 3) (lv' := [(3, .ref q), (0, .ref (w.2.2.2.2 0)), (1, .int a1), (2, .ref o)]) hx hb dL_stationOf_15 rfl hl (by decide) rfl (fun ls hl => ?_)
        refine lv_iconst (v := (2)) hx hb dL_stationOf_16 (by decide +kernel) ?_
        exact o_endX K0 hr hlocks hE (by decide +kernel) hP ((hS.2.1 o hol hAo).trans ho) hS dL_stationOf_17
set_option maxHeartbeats 4000000 in
set_option maxRecDepth 100000 in
theorem c_L_toGo (l : Launch) (hfl : l.stackTraces = false) (D : va_G) (w : Wc) (aS : Nat → Nat) (sk sv : Nat) (A : Nat → Prop) (o : Nat) (cJ : ClassId) (a1 : Int32) : CO l yL_toGo cL_toGo 4 [(0, 9, 12, 21), (0, 9, 15, 15)] 9 165 D w (ENVO D w aS sk sv A cJ .long) A o cJ [.ref (w.2.2.2.2 0), .int a1, .ref o] (f_X5_toGo 0 a1) (fun r : Int32 => .long r.toInt64) (exCode [("java/util/NoSuchElementException", 1), ("java/lang/IllegalStateException", 2)]) ["java/util/NoSuchElementException", "java/lang/IllegalStateException"] := by
  refine CO.ofW (by decide) [(0, .ref (w.2.2.2.2 0)), (1, .int a1), (2, .ref o)] (by simp [lv_args, vr_cat, vc_i, vc_j, vc_f, vc_d, vc_r, vc_n]) (by simp [lg_sl, vr_cat, vc_i, vc_j, vc_f, vc_d, vc_r, vc_n]) ?_
  intro S0 E0 R p e s m args below meth c ls hf hex hRf hRl hRc K0 htab hr hlocks hEV hA hAo hOP hl
  have K0 : CallFix p m c cL_toGo 4 s args GW RL := K0
  have hx := K0.1
  have hb := K0.2.1
  have hown := K0.2.2.2.1
  have hg := K0.2.2.2.2
  have hK := hEV.1.1
  obtain ⟨hPC, v0, ho⟩ := hOP
  have hol : o < s.heap.size := (Array.getElem?_eq_some_iff.mp ho).1
  refine lv_aload_n hx hb dL_toGo_0 rfl (lv_at hl 2 rfl) ?_
  refine lv_iconst (v := (0)) hx hb dL_toGo_1 (by decide +kernel) ?_
  refine lv_aload_n hx hb dL_toGo_2 rfl (lv_at hl 0 rfl) ?_
  refine lv_iload_n hx hb dL_toGo_3 rfl (lv_at hl 1 rfl) ?_
  refine wr_call (rest := [.int 0, .ref o]) K0 hK ENVC.ok hEV.1 hA (c_X5_toGo l hfl D w aS sk sv A 0 a1) hf q775 q776 q777 q40 q778 yd_X5_toGo ⟨by omega, by omega⟩ hRc hPC hl.1 (by rw [vr_ref (by omega)]; rfl) (by simp [vc_i, vc_r]) dL_toGo_4 (fun r H locs hE hP hS => ?_) (fun X H locs q ce hE hP hS hce hcv hcl => ?_)
  · refine W.eq (g2 := F0 m 7 ls [.int r, .int 0, .ref o]) rfl ?_
    refine lv_i2l hx hb dL_toGo_7 rfl ?_
    refine o_last K0 hEV.2.2 hAo hP ((hS.2.1 o hol hAo).trans ho) hS dL_toGo_8 (fun H locs hP ho hS => ?_)
    refine lv_goto (tgt := 18) hx hb dL_toGo_9 (by decide) ?_
    refine lv_iconst (v := (0)) hx hb dL_toGo_18 (by decide +kernel) ?_
    exact o_end0 K0 hr hlocks hE hP ho hS dL_toGo_19
  · have hX := hex X hE
    simp only [List.mem_cons, List.not_mem_nil, or_false] at hX
    rcases hX with rfl | rfl
    · refine vx_catch (own := RL) (name := "java/util/NoSuchElementException") hown (tableOf []) ⟨0, 9, 12, 21⟩ (tableOf [(0, 9, 15, 15)]) (by rw [htab]; rfl) (fun z hz => ?_) (by decide) (by decide) (hg _ q410) (va_Nw.use rfl (nw42 hEV.1)) hce hcv hcl ?_
      · cases hz
      · refine W.eq (g2 := F0 m 12 ls [.ref q]) rfl ?_
        refine lv_astore_n (i := 3) (lv' := [(3, .ref q), (0, .ref (w.2.2.2.2 0)), (1, .int a1), (2, .ref o)]) hx hb dL_toGo_12 rfl hl (by decide) rfl (fun ls hl => ?_)
        refine lv_iconst (v := (1)) hx hb dL_toGo_13 (by decide +kernel) ?_
        exact o_endX K0 hr hlocks hE (by decide +kernel) hP ((hS.2.1 o hol hAo).trans ho) hS dL_toGo_14
    · refine vx_catch (own := RL) (name := "java/lang/IllegalStateException") hown (tableOf [(0, 9, 12, 21)]) ⟨0, 9, 15, 15⟩ (tableOf []) (by rw [htab]; rfl) (fun z hz => ?_) (by decide) (by decide) (hg _ q301) (va_Nw.use rfl (nw41 hEV.1)) hce hcv hcl ?_
      · simp only [tableOf, List.map_cons, List.map_nil, List.mem_cons, List.not_mem_nil, or_false] at hz
        subst hz
        exact Or.inr ⟨by decide, "java/util/NoSuchElementException", hg _ q410, hEV.2.1 ("java/lang/IllegalStateException", "java/util/NoSuchElementException") (by simp [exPairs])⟩
      · refine W.eq (g2 := F0 m 15 ls [.ref q]) rfl ?_
        refine lv_astore_n (i := 3) (lv' := [(3, .ref q), (0, .ref (w.2.2.2.2 0)), (1, .int a1), (2, .ref o)]) hx hb dL_toGo_15 rfl hl (by decide) rfl (fun ls hl => ?_)
        refine lv_iconst (v := (2)) hx hb dL_toGo_16 (by decide +kernel) ?_
        exact o_endX K0 hr hlocks hE (by decide +kernel) hP ((hS.2.1 o hol hAo).trans ho) hS dL_toGo_17
set_option maxHeartbeats 4000000 in
set_option maxRecDepth 100000 in
theorem c_L_carAt (l : Launch) (hfl : l.stackTraces = false) (D : va_G) (w : Wc) (aS : Nat → Nat) (sk sv : Nat) (A : Nat → Prop) (o : Nat) (cJ : ClassId) (a1 : Int32) : CO l yL_carAt cL_carAt 4 [(0, 9, 12, 21), (0, 9, 15, 15)] 8 144 D w (ENVO D w aS sk sv A cJ .long) A o cJ [.ref (w.2.2.2.2 0), .int a1, .ref o] (f_X5_carAt 0 a1) (fun r : Int32 => .long r.toInt64) (exCode [("java/util/NoSuchElementException", 1), ("java/lang/IllegalStateException", 2)]) ["java/util/NoSuchElementException", "java/lang/IllegalStateException"] := by
  refine CO.ofW (by decide) [(0, .ref (w.2.2.2.2 0)), (1, .int a1), (2, .ref o)] (by simp [lv_args, vr_cat, vc_i, vc_j, vc_f, vc_d, vc_r, vc_n]) (by simp [lg_sl, vr_cat, vc_i, vc_j, vc_f, vc_d, vc_r, vc_n]) ?_
  intro S0 E0 R p e s m args below meth c ls hf hex hRf hRl hRc K0 htab hr hlocks hEV hA hAo hOP hl
  have K0 : CallFix p m c cL_carAt 4 s args GW RL := K0
  have hx := K0.1
  have hb := K0.2.1
  have hown := K0.2.2.2.1
  have hg := K0.2.2.2.2
  have hK := hEV.1.1
  obtain ⟨hPC, v0, ho⟩ := hOP
  have hol : o < s.heap.size := (Array.getElem?_eq_some_iff.mp ho).1
  refine lv_aload_n hx hb dL_carAt_0 rfl (lv_at hl 2 rfl) ?_
  refine lv_iconst (v := (0)) hx hb dL_carAt_1 (by decide +kernel) ?_
  refine lv_aload_n hx hb dL_carAt_2 rfl (lv_at hl 0 rfl) ?_
  refine lv_iload_n hx hb dL_carAt_3 rfl (lv_at hl 1 rfl) ?_
  refine wr_call (rest := [.int 0, .ref o]) K0 hK ENVC.ok hEV.1 hA (c_X5_carAt l hfl D w aS sk sv A 0 a1) hf q782 q783 q784 q40 q785 yd_X5_carAt ⟨by omega, by omega⟩ hRc hPC hl.1 (by rw [vr_ref (by omega)]; rfl) (by simp [vc_i, vc_r]) dL_carAt_4 (fun r H locs hE hP hS => ?_) (fun X H locs q ce hE hP hS hce hcv hcl => ?_)
  · refine W.eq (g2 := F0 m 7 ls [.int r, .int 0, .ref o]) rfl ?_
    refine lv_i2l hx hb dL_carAt_7 rfl ?_
    refine o_last K0 hEV.2.2 hAo hP ((hS.2.1 o hol hAo).trans ho) hS dL_carAt_8 (fun H locs hP ho hS => ?_)
    refine lv_goto (tgt := 18) hx hb dL_carAt_9 (by decide) ?_
    refine lv_iconst (v := (0)) hx hb dL_carAt_18 (by decide +kernel) ?_
    exact o_end0 K0 hr hlocks hE hP ho hS dL_carAt_19
  · have hX := hex X hE
    simp only [List.mem_cons, List.not_mem_nil, or_false] at hX
    rcases hX with rfl | rfl
    · refine vx_catch (own := RL) (name := "java/util/NoSuchElementException") hown (tableOf []) ⟨0, 9, 12, 21⟩ (tableOf [(0, 9, 15, 15)]) (by rw [htab]; rfl) (fun z hz => ?_) (by decide) (by decide) (hg _ q410) (va_Nw.use rfl (nw42 hEV.1)) hce hcv hcl ?_
      · cases hz
      · refine W.eq (g2 := F0 m 12 ls [.ref q]) rfl ?_
        refine lv_astore_n (i := 3) (lv' := [(3, .ref q), (0, .ref (w.2.2.2.2 0)), (1, .int a1), (2, .ref o)]) hx hb dL_carAt_12 rfl hl (by decide) rfl (fun ls hl => ?_)
        refine lv_iconst (v := (1)) hx hb dL_carAt_13 (by decide +kernel) ?_
        exact o_endX K0 hr hlocks hE (by decide +kernel) hP ((hS.2.1 o hol hAo).trans ho) hS dL_carAt_14
    · refine vx_catch (own := RL) (name := "java/lang/IllegalStateException") hown (tableOf [(0, 9, 12, 21)]) ⟨0, 9, 15, 15⟩ (tableOf []) (by rw [htab]; rfl) (fun z hz => ?_) (by decide) (by decide) (hg _ q301) (va_Nw.use rfl (nw41 hEV.1)) hce hcv hcl ?_
      · simp only [tableOf, List.map_cons, List.map_nil, List.mem_cons, List.not_mem_nil, or_false] at hz
        subst hz
        exact Or.inr ⟨by decide, "java/util/NoSuchElementException", hg _ q410, hEV.2.1 ("java/lang/IllegalStateException", "java/util/NoSuchElementException") (by simp [exPairs])⟩
      · refine W.eq (g2 := F0 m 15 ls [.ref q]) rfl ?_
        refine lv_astore_n (i := 3) (lv' := [(3, .ref q), (0, .ref (w.2.2.2.2 0)), (1, .int a1), (2, .ref o)]) hx hb dL_carAt_15 rfl hl (by decide) rfl (fun ls hl => ?_)
        refine lv_iconst (v := (2)) hx hb dL_carAt_16 (by decide +kernel) ?_
        exact o_endX K0 hr hlocks hE (by decide +kernel) hP ((hS.2.1 o hol hAo).trans ho) hS dL_carAt_17
set_option maxHeartbeats 4000000 in
set_option maxRecDepth 100000 in
theorem c_L_isBack (l : Launch) (hfl : l.stackTraces = false) (D : va_G) (w : Wc) (aS : Nat → Nat) (sk sv : Nat) (A : Nat → Prop) (o : Nat) (cJ : ClassId) (a1 : Int32) : CO l yL_isBack cL_isBack 4 [(0, 16, 19, 21)] 8 143 D w (ENVO D w aS sk sv A cJ .long) A o cJ [.ref (w.2.2.2.2 0), .int a1, .ref o] (f_X5_isBack 0 a1) (fun r : Int32 => .long (if r = 0 then 0 else 1)) (exCode [("java/util/NoSuchElementException", 1)]) ["java/util/NoSuchElementException"] := by
  refine CO.ofW (by decide) [(0, .ref (w.2.2.2.2 0)), (1, .int a1), (2, .ref o)] (by simp [lv_args, vr_cat, vc_i, vc_j, vc_f, vc_d, vc_r, vc_n]) (by simp [lg_sl, vr_cat, vc_i, vc_j, vc_f, vc_d, vc_r, vc_n]) ?_
  intro S0 E0 R p e s m args below meth c ls hf hex hRf hRl hRc K0 htab hr hlocks hEV hA hAo hOP hl
  have K0 : CallFix p m c cL_isBack 4 s args GW RL := K0
  have hx := K0.1
  have hb := K0.2.1
  have hown := K0.2.2.2.1
  have hg := K0.2.2.2.2
  have hK := hEV.1.1
  obtain ⟨hPC, v0, ho⟩ := hOP
  have hol : o < s.heap.size := (Array.getElem?_eq_some_iff.mp ho).1
  refine lv_aload_n hx hb dL_isBack_0 rfl (lv_at hl 2 rfl) ?_
  refine lv_iconst (v := (0)) hx hb dL_isBack_1 (by decide +kernel) ?_
  refine lv_aload_n hx hb dL_isBack_2 rfl (lv_at hl 0 rfl) ?_
  refine lv_iload_n hx hb dL_isBack_3 rfl (lv_at hl 1 rfl) ?_
  refine wr_call (rest := [.int 0, .ref o]) K0 hK ENVC.ok hEV.1 hA (c_X5_isBack l hfl D w aS sk sv A 0 a1) hf q790 q791 q792 q40 q793 yd_X5_isBack ⟨by omega, by omega⟩ hRc hPC hl.1 (by rw [vr_ref (by omega)]; rfl) (by simp [vc_i, vc_r]) dL_isBack_4 (fun r H locs hE hP hS => ?_) (fun X H locs q ce hE hP hS hce hcv hcl => ?_)
  · refine W.eq (g2 := F0 m 7 ls [.int r, .int 0, .ref o]) rfl ?_
    refine lv_if_eq (tgt := 14) hx hb dL_isBack_7 (by decide) (fun hc => ?_) (fun hc => ?_)
    · refine lv_lconst (v := (0)) hx hb dL_isBack_14 (by decide +kernel) ?_
      refine o_last K0 hEV.2.2 hAo hP ((hS.2.1 o hol hAo).trans ho) hS dL_isBack_15 (fun H locs hP ho hS => ?_)
      refine lv_goto (tgt := 22) hx hb dL_isBack_16 (by decide) ?_
      refine lv_iconst (v := (0)) hx hb dL_isBack_22 (by decide +kernel) ?_
      exact o_end0 K0 hr hlocks hE hP (by rw [if_pos hc]; exact ho) hS dL_isBack_23
    · refine lv_lconst (v := (1)) hx hb dL_isBack_10 (by decide +kernel) ?_
      refine lv_goto (tgt := 15) hx hb dL_isBack_11 (by decide) ?_
      refine o_last K0 hEV.2.2 hAo hP ((hS.2.1 o hol hAo).trans ho) hS dL_isBack_15 (fun H locs hP ho hS => ?_)
      refine lv_goto (tgt := 22) hx hb dL_isBack_16 (by decide) ?_
      refine lv_iconst (v := (0)) hx hb dL_isBack_22 (by decide +kernel) ?_
      exact o_end0 K0 hr hlocks hE hP (by rw [if_neg hc]; exact ho) hS dL_isBack_23
  · have hX := hex X hE
    simp only [List.mem_cons, List.not_mem_nil, or_false] at hX
    subst hX
    refine vx_catch (own := RL) (name := "java/util/NoSuchElementException") hown (tableOf []) ⟨0, 16, 19, 21⟩ (tableOf []) (by rw [htab]; rfl) (fun z hz => ?_) (by decide) (by decide) (hg _ q410) (va_Nw.use rfl (nw42 hEV.1)) hce hcv hcl ?_
    · cases hz
    · refine W.eq (g2 := F0 m 19 ls [.ref q]) rfl ?_
      refine lv_astore_n (i := 3) (lv' := [(3, .ref q), (0, .ref (w.2.2.2.2 0)), (1, .int a1), (2, .ref o)]) hx hb dL_isBack_19 rfl hl (by decide) rfl (fun ls hl => ?_)
      refine lv_iconst (v := (1)) hx hb dL_isBack_20 (by decide +kernel) ?_
      exact o_endX K0 hr hlocks hE (by decide +kernel) hP ((hS.2.1 o hol hAo).trans ho) hS dL_isBack_21
set_option maxHeartbeats 4000000 in
set_option maxRecDepth 100000 in
theorem c_L_waitingAt (l : Launch) (hfl : l.stackTraces = false) (D : va_G) (w : Wc) (aS : Nat → Nat) (sk sv : Nat) (A : Nat → Prop) (o : Nat) (cJ : ClassId) (a1 : Int32) : CO l yL_waitingAt cL_waitingAt 4 [(0, 9, 12, 61)] 8 142 D w (ENVO D w aS sk sv A cJ .long) A o cJ [.ref (w.2.2.2.2 0), .int a1, .ref o] (f_X5_waitingAt 0 a1) (fun r : Int32 => .long r.toInt64) (exCode [("java/lang/IndexOutOfBoundsException", 1)]) ["java/lang/IndexOutOfBoundsException"] := by
  refine CO.ofW (by decide) [(0, .ref (w.2.2.2.2 0)), (1, .int a1), (2, .ref o)] (by simp [lv_args, vr_cat, vc_i, vc_j, vc_f, vc_d, vc_r, vc_n]) (by simp [lg_sl, vr_cat, vc_i, vc_j, vc_f, vc_d, vc_r, vc_n]) ?_
  intro S0 E0 R p e s m args below meth c ls hf hex hRf hRl hRc K0 htab hr hlocks hEV hA hAo hOP hl
  have K0 : CallFix p m c cL_waitingAt 4 s args GW RL := K0
  have hx := K0.1
  have hb := K0.2.1
  have hown := K0.2.2.2.1
  have hg := K0.2.2.2.2
  have hK := hEV.1.1
  obtain ⟨hPC, v0, ho⟩ := hOP
  have hol : o < s.heap.size := (Array.getElem?_eq_some_iff.mp ho).1
  refine lv_aload_n hx hb dL_waitingAt_0 rfl (lv_at hl 2 rfl) ?_
  refine lv_iconst (v := (0)) hx hb dL_waitingAt_1 (by decide +kernel) ?_
  refine lv_aload_n hx hb dL_waitingAt_2 rfl (lv_at hl 0 rfl) ?_
  refine lv_iload_n hx hb dL_waitingAt_3 rfl (lv_at hl 1 rfl) ?_
  refine wr_call (rest := [.int 0, .ref o]) K0 hK ENVC.ok hEV.1 hA (c_X5_waitingAt l hfl D w aS sk sv A 0 a1) hf q821 q822 q823 q40 q824 yd_X5_waitingAt ⟨by omega, by omega⟩ hRc hPC hl.1 (by rw [vr_ref (by omega)]; rfl) (by simp [vc_i, vc_r]) dL_waitingAt_4 (fun r H locs hE hP hS => ?_) (fun X H locs q ce hE hP hS hce hcv hcl => ?_)
  · refine W.eq (g2 := F0 m 7 ls [.int r, .int 0, .ref o]) rfl ?_
    refine lv_i2l hx hb dL_waitingAt_7 rfl ?_
    refine o_last K0 hEV.2.2 hAo hP ((hS.2.1 o hol hAo).trans ho) hS dL_waitingAt_8 (fun H locs hP ho hS => ?_)
    refine lv_goto (tgt := 15) hx hb dL_waitingAt_9 (by decide) ?_
    refine lv_iconst (v := (0)) hx hb dL_waitingAt_15 (by decide +kernel) ?_
    exact o_end0 K0 hr hlocks hE hP ho hS dL_waitingAt_16
  · have hX := hex X hE
    simp only [List.mem_cons, List.not_mem_nil, or_false] at hX
    subst hX
    refine vx_catch (own := RL) (name := "java/lang/IndexOutOfBoundsException") hown (tableOf []) ⟨0, 9, 12, 61⟩ (tableOf []) (by rw [htab]; rfl) (fun z hz => ?_) (by decide) (by decide) (hg _ q797) (va_Nw.use rfl (nw44 hEV.1)) hce hcv hcl ?_
    · cases hz
    · refine W.eq (g2 := F0 m 12 ls [.ref q]) rfl ?_
      refine lv_astore_n (i := 3) (lv' := [(3, .ref q), (0, .ref (w.2.2.2.2 0)), (1, .int a1), (2, .ref o)]) hx hb dL_waitingAt_12 rfl hl (by decide) rfl (fun ls hl => ?_)
      refine lv_iconst (v := (1)) hx hb dL_waitingAt_13 (by decide +kernel) ?_
      exact o_endX K0 hr hlocks hE (by decide +kernel) hP ((hS.2.1 o hol hAo).trans ho) hS dL_waitingAt_14
set_option maxHeartbeats 4000000 in
set_option maxRecDepth 100000 in
theorem c_L_loopedAt (l : Launch) (hfl : l.stackTraces = false) (D : va_G) (w : Wc) (aS : Nat → Nat) (sk sv : Nat) (A : Nat → Prop) (o : Nat) (cJ : ClassId) (a1 : Int32) : CO l yL_loopedAt cL_loopedAt 4 [(0, 9, 12, 61)] 8 142 D w (ENVO D w aS sk sv A cJ .long) A o cJ [.ref (w.2.2.2.2 0), .int a1, .ref o] (f_X5_loopedAt 0 a1) (fun r : Int32 => .long r.toInt64) (exCode [("java/lang/IndexOutOfBoundsException", 1)]) ["java/lang/IndexOutOfBoundsException"] := by
  refine CO.ofW (by decide) [(0, .ref (w.2.2.2.2 0)), (1, .int a1), (2, .ref o)] (by simp [lv_args, vr_cat, vc_i, vc_j, vc_f, vc_d, vc_r, vc_n]) (by simp [lg_sl, vr_cat, vc_i, vc_j, vc_f, vc_d, vc_r, vc_n]) ?_
  intro S0 E0 R p e s m args below meth c ls hf hex hRf hRl hRc K0 htab hr hlocks hEV hA hAo hOP hl
  have K0 : CallFix p m c cL_loopedAt 4 s args GW RL := K0
  have hx := K0.1
  have hb := K0.2.1
  have hown := K0.2.2.2.1
  have hg := K0.2.2.2.2
  have hK := hEV.1.1
  obtain ⟨hPC, v0, ho⟩ := hOP
  have hol : o < s.heap.size := (Array.getElem?_eq_some_iff.mp ho).1
  refine lv_aload_n hx hb dL_loopedAt_0 rfl (lv_at hl 2 rfl) ?_
  refine lv_iconst (v := (0)) hx hb dL_loopedAt_1 (by decide +kernel) ?_
  refine lv_aload_n hx hb dL_loopedAt_2 rfl (lv_at hl 0 rfl) ?_
  refine lv_iload_n hx hb dL_loopedAt_3 rfl (lv_at hl 1 rfl) ?_
  refine wr_call (rest := [.int 0, .ref o]) K0 hK ENVC.ok hEV.1 hA (c_X5_loopedAt l hfl D w aS sk sv A 0 a1) hf q846 q847 q848 q40 q849 yd_X5_loopedAt ⟨by omega, by omega⟩ hRc hPC hl.1 (by rw [vr_ref (by omega)]; rfl) (by simp [vc_i, vc_r]) dL_loopedAt_4 (fun r H locs hE hP hS => ?_) (fun X H locs q ce hE hP hS hce hcv hcl => ?_)
  · refine W.eq (g2 := F0 m 7 ls [.int r, .int 0, .ref o]) rfl ?_
    refine lv_i2l hx hb dL_loopedAt_7 rfl ?_
    refine o_last K0 hEV.2.2 hAo hP ((hS.2.1 o hol hAo).trans ho) hS dL_loopedAt_8 (fun H locs hP ho hS => ?_)
    refine lv_goto (tgt := 15) hx hb dL_loopedAt_9 (by decide) ?_
    refine lv_iconst (v := (0)) hx hb dL_loopedAt_15 (by decide +kernel) ?_
    exact o_end0 K0 hr hlocks hE hP ho hS dL_loopedAt_16
  · have hX := hex X hE
    simp only [List.mem_cons, List.not_mem_nil, or_false] at hX
    subst hX
    refine vx_catch (own := RL) (name := "java/lang/IndexOutOfBoundsException") hown (tableOf []) ⟨0, 9, 12, 61⟩ (tableOf []) (by rw [htab]; rfl) (fun z hz => ?_) (by decide) (by decide) (hg _ q797) (va_Nw.use rfl (nw44 hEV.1)) hce hcv hcl ?_
    · cases hz
    · refine W.eq (g2 := F0 m 12 ls [.ref q]) rfl ?_
      refine lv_astore_n (i := 3) (lv' := [(3, .ref q), (0, .ref (w.2.2.2.2 0)), (1, .int a1), (2, .ref o)]) hx hb dL_loopedAt_12 rfl hl (by decide) rfl (fun ls hl => ?_)
      refine lv_iconst (v := (1)) hx hb dL_loopedAt_13 (by decide +kernel) ?_
      exact o_endX K0 hr hlocks hE (by decide +kernel) hP ((hS.2.1 o hol hAo).trans ho) hS dL_loopedAt_14
set_option maxHeartbeats 4000000 in
set_option maxRecDepth 100000 in
theorem c_L_leftAt (l : Launch) (hfl : l.stackTraces = false) (D : va_G) (w : Wc) (aS : Nat → Nat) (sk sv : Nat) (A : Nat → Prop) (o : Nat) (cJ : ClassId) (a1 : Int32) : CO l yL_leftAt cL_leftAt 4 [(0, 9, 12, 61)] 8 142 D w (ENVO D w aS sk sv A cJ .long) A o cJ [.ref (w.2.2.2.2 0), .int a1, .ref o] (f_X5_leftAt 0 a1) (fun r : Int32 => .long r.toInt64) (exCode [("java/lang/IndexOutOfBoundsException", 1)]) ["java/lang/IndexOutOfBoundsException"] := by
  refine CO.ofW (by decide) [(0, .ref (w.2.2.2.2 0)), (1, .int a1), (2, .ref o)] (by simp [lv_args, vr_cat, vc_i, vc_j, vc_f, vc_d, vc_r, vc_n]) (by simp [lg_sl, vr_cat, vc_i, vc_j, vc_f, vc_d, vc_r, vc_n]) ?_
  intro S0 E0 R p e s m args below meth c ls hf hex hRf hRl hRc K0 htab hr hlocks hEV hA hAo hOP hl
  have K0 : CallFix p m c cL_leftAt 4 s args GW RL := K0
  have hx := K0.1
  have hb := K0.2.1
  have hown := K0.2.2.2.1
  have hg := K0.2.2.2.2
  have hK := hEV.1.1
  obtain ⟨hPC, v0, ho⟩ := hOP
  have hol : o < s.heap.size := (Array.getElem?_eq_some_iff.mp ho).1
  refine lv_aload_n hx hb dL_leftAt_0 rfl (lv_at hl 2 rfl) ?_
  refine lv_iconst (v := (0)) hx hb dL_leftAt_1 (by decide +kernel) ?_
  refine lv_aload_n hx hb dL_leftAt_2 rfl (lv_at hl 0 rfl) ?_
  refine lv_iload_n hx hb dL_leftAt_3 rfl (lv_at hl 1 rfl) ?_
  refine wr_call (rest := [.int 0, .ref o]) K0 hK ENVC.ok hEV.1 hA (c_X5_leftAt l hfl D w aS sk sv A 0 a1) hf q853 q854 q855 q40 q856 yd_X5_leftAt ⟨by omega, by omega⟩ hRc hPC hl.1 (by rw [vr_ref (by omega)]; rfl) (by simp [vc_i, vc_r]) dL_leftAt_4 (fun r H locs hE hP hS => ?_) (fun X H locs q ce hE hP hS hce hcv hcl => ?_)
  · refine W.eq (g2 := F0 m 7 ls [.int r, .int 0, .ref o]) rfl ?_
    refine lv_i2l hx hb dL_leftAt_7 rfl ?_
    refine o_last K0 hEV.2.2 hAo hP ((hS.2.1 o hol hAo).trans ho) hS dL_leftAt_8 (fun H locs hP ho hS => ?_)
    refine lv_goto (tgt := 15) hx hb dL_leftAt_9 (by decide) ?_
    refine lv_iconst (v := (0)) hx hb dL_leftAt_15 (by decide +kernel) ?_
    exact o_end0 K0 hr hlocks hE hP ho hS dL_leftAt_16
  · have hX := hex X hE
    simp only [List.mem_cons, List.not_mem_nil, or_false] at hX
    subst hX
    refine vx_catch (own := RL) (name := "java/lang/IndexOutOfBoundsException") hown (tableOf []) ⟨0, 9, 12, 61⟩ (tableOf []) (by rw [htab]; rfl) (fun z hz => ?_) (by decide) (by decide) (hg _ q797) (va_Nw.use rfl (nw44 hEV.1)) hce hcv hcl ?_
    · cases hz
    · refine W.eq (g2 := F0 m 12 ls [.ref q]) rfl ?_
      refine lv_astore_n (i := 3) (lv' := [(3, .ref q), (0, .ref (w.2.2.2.2 0)), (1, .int a1), (2, .ref o)]) hx hb dL_leftAt_12 rfl hl (by decide) rfl (fun ls hl => ?_)
      refine lv_iconst (v := (1)) hx hb dL_leftAt_13 (by decide +kernel) ?_
      exact o_endX K0 hr hlocks hE (by decide +kernel) hP ((hS.2.1 o hol hAo).trans ho) hS dL_leftAt_14
set_option maxHeartbeats 4000000 in
set_option maxRecDepth 100000 in
theorem c_L_leftIn (l : Launch) (hfl : l.stackTraces = false) (D : va_G) (w : Wc) (aS : Nat → Nat) (sk sv : Nat) (A : Nat → Prop) (o : Nat) (cJ : ClassId) (a1 : Int32) : CO l yL_leftIn cL_leftIn 4 [(0, 9, 12, 21), (0, 9, 15, 15)] 8 144 D w (ENVO D w aS sk sv A cJ .long) A o cJ [.ref (w.2.2.2.2 0), .int a1, .ref o] (f_X5_leftIn 0 a1) (fun r : Int32 => .long r.toInt64) (exCode [("java/util/NoSuchElementException", 1), ("java/lang/IllegalStateException", 2)]) ["java/util/NoSuchElementException", "java/lang/IllegalStateException"] := by
  refine CO.ofW (by decide) [(0, .ref (w.2.2.2.2 0)), (1, .int a1), (2, .ref o)] (by simp [lv_args, vr_cat, vc_i, vc_j, vc_f, vc_d, vc_r, vc_n]) (by simp [lg_sl, vr_cat, vc_i, vc_j, vc_f, vc_d, vc_r, vc_n]) ?_
  intro S0 E0 R p e s m args below meth c ls hf hex hRf hRl hRc K0 htab hr hlocks hEV hA hAo hOP hl
  have K0 : CallFix p m c cL_leftIn 4 s args GW RL := K0
  have hx := K0.1
  have hb := K0.2.1
  have hown := K0.2.2.2.1
  have hg := K0.2.2.2.2
  have hK := hEV.1.1
  obtain ⟨hPC, v0, ho⟩ := hOP
  have hol : o < s.heap.size := (Array.getElem?_eq_some_iff.mp ho).1
  refine lv_aload_n hx hb dL_leftIn_0 rfl (lv_at hl 2 rfl) ?_
  refine lv_iconst (v := (0)) hx hb dL_leftIn_1 (by decide +kernel) ?_
  refine lv_aload_n hx hb dL_leftIn_2 rfl (lv_at hl 0 rfl) ?_
  refine lv_iload_n hx hb dL_leftIn_3 rfl (lv_at hl 1 rfl) ?_
  refine wr_call (rest := [.int 0, .ref o]) K0 hK ENVC.ok hEV.1 hA (c_X5_leftIn l hfl D w aS sk sv A 0 a1) hf q860 q861 q862 q40 q863 yd_X5_leftIn ⟨by omega, by omega⟩ hRc hPC hl.1 (by rw [vr_ref (by omega)]; rfl) (by simp [vc_i, vc_r]) dL_leftIn_4 (fun r H locs hE hP hS => ?_) (fun X H locs q ce hE hP hS hce hcv hcl => ?_)
  · refine W.eq (g2 := F0 m 7 ls [.int r, .int 0, .ref o]) rfl ?_
    refine lv_i2l hx hb dL_leftIn_7 rfl ?_
    refine o_last K0 hEV.2.2 hAo hP ((hS.2.1 o hol hAo).trans ho) hS dL_leftIn_8 (fun H locs hP ho hS => ?_)
    refine lv_goto (tgt := 18) hx hb dL_leftIn_9 (by decide) ?_
    refine lv_iconst (v := (0)) hx hb dL_leftIn_18 (by decide +kernel) ?_
    exact o_end0 K0 hr hlocks hE hP ho hS dL_leftIn_19
  · have hX := hex X hE
    simp only [List.mem_cons, List.not_mem_nil, or_false] at hX
    rcases hX with rfl | rfl
    · refine vx_catch (own := RL) (name := "java/util/NoSuchElementException") hown (tableOf []) ⟨0, 9, 12, 21⟩ (tableOf [(0, 9, 15, 15)]) (by rw [htab]; rfl) (fun z hz => ?_) (by decide) (by decide) (hg _ q410) (va_Nw.use rfl (nw42 hEV.1)) hce hcv hcl ?_
      · cases hz
      · refine W.eq (g2 := F0 m 12 ls [.ref q]) rfl ?_
        refine lv_astore_n (i := 3) (lv' := [(3, .ref q), (0, .ref (w.2.2.2.2 0)), (1, .int a1), (2, .ref o)]) hx hb dL_leftIn_12 rfl hl (by decide) rfl (fun ls hl => ?_)
        refine lv_iconst (v := (1)) hx hb dL_leftIn_13 (by decide +kernel) ?_
        exact o_endX K0 hr hlocks hE (by decide +kernel) hP ((hS.2.1 o hol hAo).trans ho) hS dL_leftIn_14
    · refine vx_catch (own := RL) (name := "java/lang/IllegalStateException") hown (tableOf [(0, 9, 12, 21)]) ⟨0, 9, 15, 15⟩ (tableOf []) (by rw [htab]; rfl) (fun z hz => ?_) (by decide) (by decide) (hg _ q301) (va_Nw.use rfl (nw41 hEV.1)) hce hcv hcl ?_
      · simp only [tableOf, List.map_cons, List.map_nil, List.mem_cons, List.not_mem_nil, or_false] at hz
        subst hz
        exact Or.inr ⟨by decide, "java/util/NoSuchElementException", hg _ q410, hEV.2.1 ("java/lang/IllegalStateException", "java/util/NoSuchElementException") (by simp [exPairs])⟩
      · refine W.eq (g2 := F0 m 15 ls [.ref q]) rfl ?_
        refine lv_astore_n (i := 3) (lv' := [(3, .ref q), (0, .ref (w.2.2.2.2 0)), (1, .int a1), (2, .ref o)]) hx hb dL_leftIn_15 rfl hl (by decide) rfl (fun ls hl => ?_)
        refine lv_iconst (v := (2)) hx hb dL_leftIn_16 (by decide +kernel) ?_
        exact o_endX K0 hr hlocks hE (by decide +kernel) hP ((hS.2.1 o hol hAo).trans ho) hS dL_leftIn_17
set_option maxHeartbeats 4000000 in
set_option maxRecDepth 100000 in
theorem c_L_faults (l : Launch) (hfl : l.stackTraces = false) (D : va_G) (w : Wc) (aS : Nat → Nat) (sk sv : Nat) (A : Nat → Prop) (o : Nat) (cJ : ClassId) (a1 : Int32) : CO l yL_faults cL_faults 4 [(0, 9, 12, 21)] 8 143 D w (ENVO D w aS sk sv A cJ .long) A o cJ [.ref (w.2.2.2.2 0), .int a1, .ref o] (f_X5_faults 0 a1) (fun r : Int32 => .long r.toInt64) (exCode [("java/util/NoSuchElementException", 1)]) ["java/util/NoSuchElementException"] := by
  refine CO.ofW (by decide) [(0, .ref (w.2.2.2.2 0)), (1, .int a1), (2, .ref o)] (by simp [lv_args, vr_cat, vc_i, vc_j, vc_f, vc_d, vc_r, vc_n]) (by simp [lg_sl, vr_cat, vc_i, vc_j, vc_f, vc_d, vc_r, vc_n]) ?_
  intro S0 E0 R p e s m args below meth c ls hf hex hRf hRl hRc K0 htab hr hlocks hEV hA hAo hOP hl
  have K0 : CallFix p m c cL_faults 4 s args GW RL := K0
  have hx := K0.1
  have hb := K0.2.1
  have hown := K0.2.2.2.1
  have hg := K0.2.2.2.2
  have hK := hEV.1.1
  obtain ⟨hPC, v0, ho⟩ := hOP
  have hol : o < s.heap.size := (Array.getElem?_eq_some_iff.mp ho).1
  refine lv_aload_n hx hb dL_faults_0 rfl (lv_at hl 2 rfl) ?_
  refine lv_iconst (v := (0)) hx hb dL_faults_1 (by decide +kernel) ?_
  refine lv_aload_n hx hb dL_faults_2 rfl (lv_at hl 0 rfl) ?_
  refine lv_iload_n hx hb dL_faults_3 rfl (lv_at hl 1 rfl) ?_
  refine wr_call (rest := [.int 0, .ref o]) K0 hK ENVC.ok hEV.1 hA (c_X5_faults l hfl D w aS sk sv A 0 a1) hf q868 q869 q870 q40 q871 yd_X5_faults ⟨by omega, by omega⟩ hRc hPC hl.1 (by rw [vr_ref (by omega)]; rfl) (by simp [vc_i, vc_r]) dL_faults_4 (fun r H locs hE hP hS => ?_) (fun X H locs q ce hE hP hS hce hcv hcl => ?_)
  · refine W.eq (g2 := F0 m 7 ls [.int r, .int 0, .ref o]) rfl ?_
    refine lv_i2l hx hb dL_faults_7 rfl ?_
    refine o_last K0 hEV.2.2 hAo hP ((hS.2.1 o hol hAo).trans ho) hS dL_faults_8 (fun H locs hP ho hS => ?_)
    refine lv_goto (tgt := 15) hx hb dL_faults_9 (by decide) ?_
    refine lv_iconst (v := (0)) hx hb dL_faults_15 (by decide +kernel) ?_
    exact o_end0 K0 hr hlocks hE hP ho hS dL_faults_16
  · have hX := hex X hE
    simp only [List.mem_cons, List.not_mem_nil, or_false] at hX
    subst hX
    refine vx_catch (own := RL) (name := "java/util/NoSuchElementException") hown (tableOf []) ⟨0, 9, 12, 21⟩ (tableOf []) (by rw [htab]; rfl) (fun z hz => ?_) (by decide) (by decide) (hg _ q410) (va_Nw.use rfl (nw42 hEV.1)) hce hcv hcl ?_
    · cases hz
    · refine W.eq (g2 := F0 m 12 ls [.ref q]) rfl ?_
      refine lv_astore_n (i := 3) (lv' := [(3, .ref q), (0, .ref (w.2.2.2.2 0)), (1, .int a1), (2, .ref o)]) hx hb dL_faults_12 rfl hl (by decide) rfl (fun ls hl => ?_)
      refine lv_iconst (v := (1)) hx hb dL_faults_13 (by decide +kernel) ?_
      exact o_endX K0 hr hlocks hE (by decide +kernel) hP ((hS.2.1 o hol hAo).trans ho) hS dL_faults_14
set_option maxHeartbeats 4000000 in
set_option maxRecDepth 100000 in
theorem c_L_hasFault (l : Launch) (hfl : l.stackTraces = false) (D : va_G) (w : Wc) (aS : Nat → Nat) (sk sv : Nat) (A : Nat → Prop) (o : Nat) (cJ : ClassId) (a1 : Int32) (a2 : Int32) : CO l yL_hasFault cL_hasFault 5 [(0, 17, 20, 21)] 8 145 D w (ENVO D w aS sk sv A cJ .long) A o cJ [.ref (w.2.2.2.2 0), .int a1, .int a2, .ref o] (f_X5_hasFault 0 a1 a2) (fun r : Int32 => .long (if r = 0 then 0 else 1)) (exCode [("java/util/NoSuchElementException", 1)]) ["java/util/NoSuchElementException"] := by
  refine CO.ofW (by decide) [(0, .ref (w.2.2.2.2 0)), (1, .int a1), (2, .int a2), (3, .ref o)] (by simp [lv_args, vr_cat, vc_i, vc_j, vc_f, vc_d, vc_r, vc_n]) (by simp [lg_sl, vr_cat, vc_i, vc_j, vc_f, vc_d, vc_r, vc_n]) ?_
  intro S0 E0 R p e s m args below meth c ls hf hex hRf hRl hRc K0 htab hr hlocks hEV hA hAo hOP hl
  have K0 : CallFix p m c cL_hasFault 5 s args GW RL := K0
  have hx := K0.1
  have hb := K0.2.1
  have hown := K0.2.2.2.1
  have hg := K0.2.2.2.2
  have hK := hEV.1.1
  obtain ⟨hPC, v0, ho⟩ := hOP
  have hol : o < s.heap.size := (Array.getElem?_eq_some_iff.mp ho).1
  refine lv_aload_n hx hb dL_hasFault_0 rfl (lv_at hl 3 rfl) ?_
  refine lv_iconst (v := (0)) hx hb dL_hasFault_1 (by decide +kernel) ?_
  refine lv_aload_n hx hb dL_hasFault_2 rfl (lv_at hl 0 rfl) ?_
  refine lv_iload_n hx hb dL_hasFault_3 rfl (lv_at hl 1 rfl) ?_
  refine lv_iload_n hx hb dL_hasFault_4 rfl (lv_at hl 2 rfl) ?_
  refine wr_call (rest := [.int 0, .ref o]) K0 hK ENVC.ok hEV.1 hA (c_X5_hasFault l hfl D w aS sk sv A 0 a1 a2) hf q875 q876 q877 q40 q878 yd_X5_hasFault ⟨by omega, by omega⟩ hRc hPC hl.1 (by rw [vr_ref (by omega)]; rfl) (by simp [vc_i, vc_r]) dL_hasFault_5 (fun r H locs hE hP hS => ?_) (fun X H locs q ce hE hP hS hce hcv hcl => ?_)
  · refine W.eq (g2 := F0 m 8 ls [.int r, .int 0, .ref o]) rfl ?_
    refine lv_if_eq (tgt := 15) hx hb dL_hasFault_8 (by decide) (fun hc => ?_) (fun hc => ?_)
    · refine lv_lconst (v := (0)) hx hb dL_hasFault_15 (by decide +kernel) ?_
      refine o_last K0 hEV.2.2 hAo hP ((hS.2.1 o hol hAo).trans ho) hS dL_hasFault_16 (fun H locs hP ho hS => ?_)
      refine lv_goto (tgt := 24) hx hb dL_hasFault_17 (by decide) ?_
      refine lv_iconst (v := (0)) hx hb dL_hasFault_24 (by decide +kernel) ?_
      exact o_end0 K0 hr hlocks hE hP (by rw [if_pos hc]; exact ho) hS dL_hasFault_25
    · refine lv_lconst (v := (1)) hx hb dL_hasFault_11 (by decide +kernel) ?_
      refine lv_goto (tgt := 16) hx hb dL_hasFault_12 (by decide) ?_
      refine o_last K0 hEV.2.2 hAo hP ((hS.2.1 o hol hAo).trans ho) hS dL_hasFault_16 (fun H locs hP ho hS => ?_)
      refine lv_goto (tgt := 24) hx hb dL_hasFault_17 (by decide) ?_
      refine lv_iconst (v := (0)) hx hb dL_hasFault_24 (by decide +kernel) ?_
      exact o_end0 K0 hr hlocks hE hP (by rw [if_neg hc]; exact ho) hS dL_hasFault_25
  · have hX := hex X hE
    simp only [List.mem_cons, List.not_mem_nil, or_false] at hX
    subst hX
    refine vx_catch (own := RL) (name := "java/util/NoSuchElementException") hown (tableOf []) ⟨0, 17, 20, 21⟩ (tableOf []) (by rw [htab]; rfl) (fun z hz => ?_) (by decide) (by decide) (hg _ q410) (va_Nw.use rfl (nw42 hEV.1)) hce hcv hcl ?_
    · cases hz
    · refine W.eq (g2 := F0 m 20 ls [.ref q]) rfl ?_
      refine lv_astore (lv' := [(4, .ref q), (0, .ref (w.2.2.2.2 0)), (1, .int a1), (2, .int a2), (3, .ref o)]) hx hb dL_hasFault_20 hl (by decide) rfl (fun ls hl => ?_)
      refine lv_iconst (v := (1)) hx hb dL_hasFault_22 (by decide +kernel) ?_
      exact o_endX K0 hr hlocks hE (by decide +kernel) hP ((hS.2.1 o hol hAo).trans ho) hS dL_hasFault_23
set_option maxHeartbeats 4000000 in
set_option maxRecDepth 100000 in
theorem c_L_lacks (l : Launch) (hfl : l.stackTraces = false) (D : va_G) (w : Wc) (aS : Nat → Nat) (sk sv : Nat) (A : Nat → Prop) (o : Nat) (cJ : ClassId) (a1 : Int32) : CO l yL_lacks cL_lacks 4 [(0, 9, 12, 21)] 8 143 D w (ENVO D w aS sk sv A cJ .long) A o cJ [.ref (w.2.2.2.2 0), .int a1, .ref o] (f_X5_lacks 0 a1) (fun r : Int32 => .long r.toInt64) (exCode [("java/util/NoSuchElementException", 1)]) ["java/util/NoSuchElementException"] := by
  refine CO.ofW (by decide) [(0, .ref (w.2.2.2.2 0)), (1, .int a1), (2, .ref o)] (by simp [lv_args, vr_cat, vc_i, vc_j, vc_f, vc_d, vc_r, vc_n]) (by simp [lg_sl, vr_cat, vc_i, vc_j, vc_f, vc_d, vc_r, vc_n]) ?_
  intro S0 E0 R p e s m args below meth c ls hf hex hRf hRl hRc K0 htab hr hlocks hEV hA hAo hOP hl
  have K0 : CallFix p m c cL_lacks 4 s args GW RL := K0
  have hx := K0.1
  have hb := K0.2.1
  have hown := K0.2.2.2.1
  have hg := K0.2.2.2.2
  have hK := hEV.1.1
  obtain ⟨hPC, v0, ho⟩ := hOP
  have hol : o < s.heap.size := (Array.getElem?_eq_some_iff.mp ho).1
  refine lv_aload_n hx hb dL_lacks_0 rfl (lv_at hl 2 rfl) ?_
  refine lv_iconst (v := (0)) hx hb dL_lacks_1 (by decide +kernel) ?_
  refine lv_aload_n hx hb dL_lacks_2 rfl (lv_at hl 0 rfl) ?_
  refine lv_iload_n hx hb dL_lacks_3 rfl (lv_at hl 1 rfl) ?_
  refine wr_call (rest := [.int 0, .ref o]) K0 hK ENVC.ok hEV.1 hA (c_X5_lacks l hfl D w aS sk sv A 0 a1) hf q882 q883 q884 q40 q885 yd_X5_lacks ⟨by omega, by omega⟩ hRc hPC hl.1 (by rw [vr_ref (by omega)]; rfl) (by simp [vc_i, vc_r]) dL_lacks_4 (fun r H locs hE hP hS => ?_) (fun X H locs q ce hE hP hS hce hcv hcl => ?_)
  · refine W.eq (g2 := F0 m 7 ls [.int r, .int 0, .ref o]) rfl ?_
    refine lv_i2l hx hb dL_lacks_7 rfl ?_
    refine o_last K0 hEV.2.2 hAo hP ((hS.2.1 o hol hAo).trans ho) hS dL_lacks_8 (fun H locs hP ho hS => ?_)
    refine lv_goto (tgt := 15) hx hb dL_lacks_9 (by decide) ?_
    refine lv_iconst (v := (0)) hx hb dL_lacks_15 (by decide +kernel) ?_
    exact o_end0 K0 hr hlocks hE hP ho hS dL_lacks_16
  · have hX := hex X hE
    simp only [List.mem_cons, List.not_mem_nil, or_false] at hX
    subst hX
    refine vx_catch (own := RL) (name := "java/util/NoSuchElementException") hown (tableOf []) ⟨0, 9, 12, 21⟩ (tableOf []) (by rw [htab]; rfl) (fun z hz => ?_) (by decide) (by decide) (hg _ q410) (va_Nw.use rfl (nw42 hEV.1)) hce hcv hcl ?_
    · cases hz
    · refine W.eq (g2 := F0 m 12 ls [.ref q]) rfl ?_
      refine lv_astore_n (i := 3) (lv' := [(3, .ref q), (0, .ref (w.2.2.2.2 0)), (1, .int a1), (2, .ref o)]) hx hb dL_lacks_12 rfl hl (by decide) rfl (fun ls hl => ?_)
      refine lv_iconst (v := (1)) hx hb dL_lacks_13 (by decide +kernel) ?_
      exact o_endX K0 hr hlocks hE (by decide +kernel) hP ((hS.2.1 o hol hAo).trans ho) hS dL_lacks_14
set_option maxHeartbeats 4000000 in
set_option maxRecDepth 100000 in
theorem c_L_lacksOf (l : Launch) (hfl : l.stackTraces = false) (D : va_G) (w : Wc) (aS : Nat → Nat) (sk sv : Nat) (A : Nat → Prop) (o : Nat) (cJ : ClassId) (a1 : Int32) : CO l yL_lacksOf cL_lacksOf 4 [(0, 9, 12, 21)] 8 144 D w (ENVO D w aS sk sv A cJ .long) A o cJ [.ref (w.2.2.2.2 0), .int a1, .ref o] (f_X5_lacksOf 0 a1) (fun r : Int32 => .long r.toInt64) (exCode [("java/util/NoSuchElementException", 1)]) ["java/util/NoSuchElementException"] := by
  refine CO.ofW (by decide) [(0, .ref (w.2.2.2.2 0)), (1, .int a1), (2, .ref o)] (by simp [lv_args, vr_cat, vc_i, vc_j, vc_f, vc_d, vc_r, vc_n]) (by simp [lg_sl, vr_cat, vc_i, vc_j, vc_f, vc_d, vc_r, vc_n]) ?_
  intro S0 E0 R p e s m args below meth c ls hf hex hRf hRl hRc K0 htab hr hlocks hEV hA hAo hOP hl
  have K0 : CallFix p m c cL_lacksOf 4 s args GW RL := K0
  have hx := K0.1
  have hb := K0.2.1
  have hown := K0.2.2.2.1
  have hg := K0.2.2.2.2
  have hK := hEV.1.1
  obtain ⟨hPC, v0, ho⟩ := hOP
  have hol : o < s.heap.size := (Array.getElem?_eq_some_iff.mp ho).1
  refine lv_aload_n hx hb dL_lacksOf_0 rfl (lv_at hl 2 rfl) ?_
  refine lv_iconst (v := (0)) hx hb dL_lacksOf_1 (by decide +kernel) ?_
  refine lv_aload_n hx hb dL_lacksOf_2 rfl (lv_at hl 0 rfl) ?_
  refine lv_iload_n hx hb dL_lacksOf_3 rfl (lv_at hl 1 rfl) ?_
  refine wr_call (rest := [.int 0, .ref o]) K0 hK ENVC.ok hEV.1 hA (c_X5_lacksOf l hfl D w aS sk sv A 0 a1) hf q889 q890 q891 q40 q892 yd_X5_lacksOf ⟨by omega, by omega⟩ hRc hPC hl.1 (by rw [vr_ref (by omega)]; rfl) (by simp [vc_i, vc_r]) dL_lacksOf_4 (fun r H locs hE hP hS => ?_) (fun X H locs q ce hE hP hS hce hcv hcl => ?_)
  · refine W.eq (g2 := F0 m 7 ls [.int r, .int 0, .ref o]) rfl ?_
    refine lv_i2l hx hb dL_lacksOf_7 rfl ?_
    refine o_last K0 hEV.2.2 hAo hP ((hS.2.1 o hol hAo).trans ho) hS dL_lacksOf_8 (fun H locs hP ho hS => ?_)
    refine lv_goto (tgt := 15) hx hb dL_lacksOf_9 (by decide) ?_
    refine lv_iconst (v := (0)) hx hb dL_lacksOf_15 (by decide +kernel) ?_
    exact o_end0 K0 hr hlocks hE hP ho hS dL_lacksOf_16
  · have hX := hex X hE
    simp only [List.mem_cons, List.not_mem_nil, or_false] at hX
    subst hX
    refine vx_catch (own := RL) (name := "java/util/NoSuchElementException") hown (tableOf []) ⟨0, 9, 12, 21⟩ (tableOf []) (by rw [htab]; rfl) (fun z hz => ?_) (by decide) (by decide) (hg _ q410) (va_Nw.use rfl (nw42 hEV.1)) hce hcv hcl ?_
    · cases hz
    · refine W.eq (g2 := F0 m 12 ls [.ref q]) rfl ?_
      refine lv_astore_n (i := 3) (lv' := [(3, .ref q), (0, .ref (w.2.2.2.2 0)), (1, .int a1), (2, .ref o)]) hx hb dL_lacksOf_12 rfl hl (by decide) rfl (fun ls hl => ?_)
      refine lv_iconst (v := (1)) hx hb dL_lacksOf_13 (by decide +kernel) ?_
      exact o_endX K0 hr hlocks hE (by decide +kernel) hP ((hS.2.1 o hol hAo).trans ho) hS dL_lacksOf_14
set_option maxHeartbeats 4000000 in
set_option maxRecDepth 100000 in
theorem c_L_onShelf (l : Launch) (hfl : l.stackTraces = false) (D : va_G) (w : Wc) (aS : Nat → Nat) (sk sv : Nat) (A : Nat → Prop) (o : Nat) (cJ : ClassId) (a1 : Int32) : CO l yL_onShelf cL_onShelf 4 [(0, 9, 12, 21)] 8 143 D w (ENVO D w aS sk sv A cJ .long) A o cJ [.ref (w.2.2.2.2 0), .int a1, .ref o] (f_X5_onShelf 0 a1) (fun r : Int32 => .long r.toInt64) (exCode [("java/util/NoSuchElementException", 1)]) ["java/util/NoSuchElementException"] := by
  refine CO.ofW (by decide) [(0, .ref (w.2.2.2.2 0)), (1, .int a1), (2, .ref o)] (by simp [lv_args, vr_cat, vc_i, vc_j, vc_f, vc_d, vc_r, vc_n]) (by simp [lg_sl, vr_cat, vc_i, vc_j, vc_f, vc_d, vc_r, vc_n]) ?_
  intro S0 E0 R p e s m args below meth c ls hf hex hRf hRl hRc K0 htab hr hlocks hEV hA hAo hOP hl
  have K0 : CallFix p m c cL_onShelf 4 s args GW RL := K0
  have hx := K0.1
  have hb := K0.2.1
  have hown := K0.2.2.2.1
  have hg := K0.2.2.2.2
  have hK := hEV.1.1
  obtain ⟨hPC, v0, ho⟩ := hOP
  have hol : o < s.heap.size := (Array.getElem?_eq_some_iff.mp ho).1
  refine lv_aload_n hx hb dL_onShelf_0 rfl (lv_at hl 2 rfl) ?_
  refine lv_iconst (v := (0)) hx hb dL_onShelf_1 (by decide +kernel) ?_
  refine lv_aload_n hx hb dL_onShelf_2 rfl (lv_at hl 0 rfl) ?_
  refine lv_iload_n hx hb dL_onShelf_3 rfl (lv_at hl 1 rfl) ?_
  refine wr_call (rest := [.int 0, .ref o]) K0 hK ENVC.ok hEV.1 hA (c_X5_onShelf l hfl D w aS sk sv A 0 a1) hf q896 q897 q898 q40 q899 yd_X5_onShelf ⟨by omega, by omega⟩ hRc hPC hl.1 (by rw [vr_ref (by omega)]; rfl) (by simp [vc_i, vc_r]) dL_onShelf_4 (fun r H locs hE hP hS => ?_) (fun X H locs q ce hE hP hS hce hcv hcl => ?_)
  · refine W.eq (g2 := F0 m 7 ls [.int r, .int 0, .ref o]) rfl ?_
    refine lv_i2l hx hb dL_onShelf_7 rfl ?_
    refine o_last K0 hEV.2.2 hAo hP ((hS.2.1 o hol hAo).trans ho) hS dL_onShelf_8 (fun H locs hP ho hS => ?_)
    refine lv_goto (tgt := 15) hx hb dL_onShelf_9 (by decide) ?_
    refine lv_iconst (v := (0)) hx hb dL_onShelf_15 (by decide +kernel) ?_
    exact o_end0 K0 hr hlocks hE hP ho hS dL_onShelf_16
  · have hX := hex X hE
    simp only [List.mem_cons, List.not_mem_nil, or_false] at hX
    subst hX
    refine vx_catch (own := RL) (name := "java/util/NoSuchElementException") hown (tableOf []) ⟨0, 9, 12, 21⟩ (tableOf []) (by rw [htab]; rfl) (fun z hz => ?_) (by decide) (by decide) (hg _ q410) (va_Nw.use rfl (nw42 hEV.1)) hce hcv hcl ?_
    · cases hz
    · refine W.eq (g2 := F0 m 12 ls [.ref q]) rfl ?_
      refine lv_astore_n (i := 3) (lv' := [(3, .ref q), (0, .ref (w.2.2.2.2 0)), (1, .int a1), (2, .ref o)]) hx hb dL_onShelf_12 rfl hl (by decide) rfl (fun ls hl => ?_)
      refine lv_iconst (v := (1)) hx hb dL_onShelf_13 (by decide +kernel) ?_
      exact o_endX K0 hr hlocks hE (by decide +kernel) hP ((hS.2.1 o hol hAo).trans ho) hS dL_onShelf_14
set_option maxHeartbeats 4000000 in
set_option maxRecDepth 100000 in
theorem c_L_inStore (l : Launch) (hfl : l.stackTraces = false) (D : va_G) (w : Wc) (aS : Nat → Nat) (sk sv : Nat) (A : Nat → Prop) (o : Nat) (cJ : ClassId) (a1 : Int32) : CO l yL_inStore cL_inStore 4 [(0, 9, 12, 21)] 8 141 D w (ENVO D w aS sk sv A cJ .long) A o cJ [.ref (w.2.2.2.2 0), .int a1, .ref o] (f_X5_inStore 0 a1) (fun r : Int32 => .long r.toInt64) (exCode [("java/util/NoSuchElementException", 1)]) ["java/util/NoSuchElementException"] := by
  refine CO.ofW (by decide) [(0, .ref (w.2.2.2.2 0)), (1, .int a1), (2, .ref o)] (by simp [lv_args, vr_cat, vc_i, vc_j, vc_f, vc_d, vc_r, vc_n]) (by simp [lg_sl, vr_cat, vc_i, vc_j, vc_f, vc_d, vc_r, vc_n]) ?_
  intro S0 E0 R p e s m args below meth c ls hf hex hRf hRl hRc K0 htab hr hlocks hEV hA hAo hOP hl
  have K0 : CallFix p m c cL_inStore 4 s args GW RL := K0
  have hx := K0.1
  have hb := K0.2.1
  have hown := K0.2.2.2.1
  have hg := K0.2.2.2.2
  have hK := hEV.1.1
  obtain ⟨hPC, v0, ho⟩ := hOP
  have hol : o < s.heap.size := (Array.getElem?_eq_some_iff.mp ho).1
  refine lv_aload_n hx hb dL_inStore_0 rfl (lv_at hl 2 rfl) ?_
  refine lv_iconst (v := (0)) hx hb dL_inStore_1 (by decide +kernel) ?_
  refine lv_aload_n hx hb dL_inStore_2 rfl (lv_at hl 0 rfl) ?_
  refine lv_iload_n hx hb dL_inStore_3 rfl (lv_at hl 1 rfl) ?_
  refine wr_call (rest := [.int 0, .ref o]) K0 hK ENVC.ok hEV.1 hA (c_X5_inStore l hfl D w aS sk sv A 0 a1) hf q903 q904 q905 q40 q906 yd_X5_inStore ⟨by omega, by omega⟩ hRc hPC hl.1 (by rw [vr_ref (by omega)]; rfl) (by simp [vc_i, vc_r]) dL_inStore_4 (fun r H locs hE hP hS => ?_) (fun X H locs q ce hE hP hS hce hcv hcl => ?_)
  · refine W.eq (g2 := F0 m 7 ls [.int r, .int 0, .ref o]) rfl ?_
    refine lv_i2l hx hb dL_inStore_7 rfl ?_
    refine o_last K0 hEV.2.2 hAo hP ((hS.2.1 o hol hAo).trans ho) hS dL_inStore_8 (fun H locs hP ho hS => ?_)
    refine lv_goto (tgt := 15) hx hb dL_inStore_9 (by decide) ?_
    refine lv_iconst (v := (0)) hx hb dL_inStore_15 (by decide +kernel) ?_
    exact o_end0 K0 hr hlocks hE hP ho hS dL_inStore_16
  · have hX := hex X hE
    simp only [List.mem_cons, List.not_mem_nil, or_false] at hX
    subst hX
    refine vx_catch (own := RL) (name := "java/util/NoSuchElementException") hown (tableOf []) ⟨0, 9, 12, 21⟩ (tableOf []) (by rw [htab]; rfl) (fun z hz => ?_) (by decide) (by decide) (hg _ q410) (va_Nw.use rfl (nw42 hEV.1)) hce hcv hcl ?_
    · cases hz
    · refine W.eq (g2 := F0 m 12 ls [.ref q]) rfl ?_
      refine lv_astore_n (i := 3) (lv' := [(3, .ref q), (0, .ref (w.2.2.2.2 0)), (1, .int a1), (2, .ref o)]) hx hb dL_inStore_12 rfl hl (by decide) rfl (fun ls hl => ?_)
      refine lv_iconst (v := (1)) hx hb dL_inStore_13 (by decide +kernel) ?_
      exact o_endX K0 hr hlocks hE (by decide +kernel) hP ((hS.2.1 o hol hAo).trans ho) hS dL_inStore_14
set_option maxHeartbeats 4000000 in
set_option maxRecDepth 100000 in
theorem c_L_leavesIn (l : Launch) (hfl : l.stackTraces = false) (D : va_G) (w : Wc) (aS : Nat → Nat) (sk sv : Nat) (A : Nat → Prop) (o : Nat) (cJ : ClassId) (a1 : Int32) : CO l yL_leavesIn cL_leavesIn 4 [(0, 9, 12, 21), (0, 9, 15, 15), (0, 9, 18, 36)] 10 235 D w (ENVO D w aS sk sv A cJ .long) A o cJ [.ref (w.2.2.2.2 0), .int a1, .ref o] (f_X5_leavesIn 0 a1) (fun r : Int32 => .long r.toInt64) (exCode [("java/util/NoSuchElementException", 1), ("java/lang/IllegalStateException", 2), ("java/lang/UnsupportedOperationException", 3)]) ["java/util/NoSuchElementException", "java/lang/IllegalStateException", "java/lang/UnsupportedOperationException"] := by
  refine CO.ofW (by decide) [(0, .ref (w.2.2.2.2 0)), (1, .int a1), (2, .ref o)] (by simp [lv_args, vr_cat, vc_i, vc_j, vc_f, vc_d, vc_r, vc_n]) (by simp [lg_sl, vr_cat, vc_i, vc_j, vc_f, vc_d, vc_r, vc_n]) ?_
  intro S0 E0 R p e s m args below meth c ls hf hex hRf hRl hRc K0 htab hr hlocks hEV hA hAo hOP hl
  have K0 : CallFix p m c cL_leavesIn 4 s args GW RL := K0
  have hx := K0.1
  have hb := K0.2.1
  have hown := K0.2.2.2.1
  have hg := K0.2.2.2.2
  have hK := hEV.1.1
  obtain ⟨hPC, v0, ho⟩ := hOP
  have hol : o < s.heap.size := (Array.getElem?_eq_some_iff.mp ho).1
  refine lv_aload_n hx hb dL_leavesIn_0 rfl (lv_at hl 2 rfl) ?_
  refine lv_iconst (v := (0)) hx hb dL_leavesIn_1 (by decide +kernel) ?_
  refine lv_aload_n hx hb dL_leavesIn_2 rfl (lv_at hl 0 rfl) ?_
  refine lv_iload_n hx hb dL_leavesIn_3 rfl (lv_at hl 1 rfl) ?_
  refine wr_call (rest := [.int 0, .ref o]) K0 hK ENVC.ok hEV.1 hA (c_X5_leavesIn l hfl D w aS sk sv A 0 a1) hf q910 q911 q912 q40 q913 yd_X5_leavesIn ⟨by omega, by omega⟩ hRc hPC hl.1 (by rw [vr_ref (by omega)]; rfl) (by simp [vc_i, vc_r]) dL_leavesIn_4 (fun r H locs hE hP hS => ?_) (fun X H locs q ce hE hP hS hce hcv hcl => ?_)
  · refine W.eq (g2 := F0 m 7 ls [.int r, .int 0, .ref o]) rfl ?_
    refine lv_i2l hx hb dL_leavesIn_7 rfl ?_
    refine o_last K0 hEV.2.2 hAo hP ((hS.2.1 o hol hAo).trans ho) hS dL_leavesIn_8 (fun H locs hP ho hS => ?_)
    refine lv_goto (tgt := 21) hx hb dL_leavesIn_9 (by decide) ?_
    refine lv_iconst (v := (0)) hx hb dL_leavesIn_21 (by decide +kernel) ?_
    exact o_end0 K0 hr hlocks hE hP ho hS dL_leavesIn_22
  · have hX := hex X hE
    simp only [List.mem_cons, List.not_mem_nil, or_false] at hX
    rcases hX with rfl | rfl | rfl
    · refine vx_catch (own := RL) (name := "java/util/NoSuchElementException") hown (tableOf []) ⟨0, 9, 12, 21⟩ (tableOf [(0, 9, 15, 15), (0, 9, 18, 36)]) (by rw [htab]; rfl) (fun z hz => ?_) (by decide) (by decide) (hg _ q410) (va_Nw.use rfl (nw42 hEV.1)) hce hcv hcl ?_
      · cases hz
      · refine W.eq (g2 := F0 m 12 ls [.ref q]) rfl ?_
        refine lv_astore_n (i := 3) (lv' := [(3, .ref q), (0, .ref (w.2.2.2.2 0)), (1, .int a1), (2, .ref o)]) hx hb dL_leavesIn_12 rfl hl (by decide) rfl (fun ls hl => ?_)
        refine lv_iconst (v := (1)) hx hb dL_leavesIn_13 (by decide +kernel) ?_
        exact o_endX K0 hr hlocks hE (by decide +kernel) hP ((hS.2.1 o hol hAo).trans ho) hS dL_leavesIn_14
    · refine vx_catch (own := RL) (name := "java/lang/IllegalStateException") hown (tableOf [(0, 9, 12, 21)]) ⟨0, 9, 15, 15⟩ (tableOf [(0, 9, 18, 36)]) (by rw [htab]; rfl) (fun z hz => ?_) (by decide) (by decide) (hg _ q301) (va_Nw.use rfl (nw41 hEV.1)) hce hcv hcl ?_
      · simp only [tableOf, List.map_cons, List.map_nil, List.mem_cons, List.not_mem_nil, or_false] at hz
        subst hz
        exact Or.inr ⟨by decide, "java/util/NoSuchElementException", hg _ q410, hEV.2.1 ("java/lang/IllegalStateException", "java/util/NoSuchElementException") (by simp [exPairs])⟩
      · refine W.eq (g2 := F0 m 15 ls [.ref q]) rfl ?_
        refine lv_astore_n (i := 3) (lv' := [(3, .ref q), (0, .ref (w.2.2.2.2 0)), (1, .int a1), (2, .ref o)]) hx hb dL_leavesIn_15 rfl hl (by decide) rfl (fun ls hl => ?_)
        refine lv_iconst (v := (2)) hx hb dL_leavesIn_16 (by decide +kernel) ?_
        exact o_endX K0 hr hlocks hE (by decide +kernel) hP ((hS.2.1 o hol hAo).trans ho) hS dL_leavesIn_17
    · refine vx_catch (own := RL) (name := "java/lang/UnsupportedOperationException") hown (tableOf [(0, 9, 12, 21), (0, 9, 15, 15)]) ⟨0, 9, 18, 36⟩ (tableOf []) (by rw [htab]; rfl) (fun z hz => ?_) (by decide) (by decide) (hg _ q507) (va_Nw.use rfl (nw43 hEV.1)) hce hcv hcl ?_
      · simp only [tableOf, List.map_cons, List.map_nil, List.mem_cons, List.not_mem_nil, or_false] at hz
        rcases hz with rfl | rfl
        · exact Or.inr ⟨by decide, "java/util/NoSuchElementException", hg _ q410, hEV.2.1 ("java/lang/UnsupportedOperationException", "java/util/NoSuchElementException") (by simp [exPairs])⟩
        · exact Or.inr ⟨by decide, "java/lang/IllegalStateException", hg _ q301, hEV.2.1 ("java/lang/UnsupportedOperationException", "java/lang/IllegalStateException") (by simp [exPairs])⟩
      · refine W.eq (g2 := F0 m 18 ls [.ref q]) rfl ?_
        refine lv_astore_n (i := 3) (lv' := [(3, .ref q), (0, .ref (w.2.2.2.2 0)), (1, .int a1), (2, .ref o)]) hx hb dL_leavesIn_18 rfl hl (by decide) rfl (fun ls hl => ?_)
        refine lv_iconst (v := (3)) hx hb dL_leavesIn_19 (by decide +kernel) ?_
        exact o_endX K0 hr hlocks hE (by decide +kernel) hP ((hS.2.1 o hol hAo).trans ho) hS dL_leavesIn_20
set_option maxHeartbeats 4000000 in
set_option maxRecDepth 100000 in
theorem c_L_leavesByTicks (l : Launch) (hfl : l.stackTraces = false) (D : va_G) (w : Wc) (aS : Nat → Nat) (sk sv : Nat) (A : Nat → Prop) (o : Nat) (cJ : ClassId) (a1 : Int32) : CO l yL_leavesByTicks cL_leavesByTicks 4 [(0, 9, 12, 21), (0, 9, 15, 15), (0, 9, 18, 36)] 10 233 D w (ENVO D w aS sk sv A cJ .long) A o cJ [.ref (w.2.2.2.2 0), .int a1, .ref o] (f_X5_leavesByTicks 0 a1) (fun r : Int32 => .long r.toInt64) (exCode [("java/util/NoSuchElementException", 1), ("java/lang/IllegalStateException", 2), ("java/lang/UnsupportedOperationException", 3)]) ["java/util/NoSuchElementException", "java/lang/IllegalStateException", "java/lang/UnsupportedOperationException"] := by
  refine CO.ofW (by decide) [(0, .ref (w.2.2.2.2 0)), (1, .int a1), (2, .ref o)] (by simp [lv_args, vr_cat, vc_i, vc_j, vc_f, vc_d, vc_r, vc_n]) (by simp [lg_sl, vr_cat, vc_i, vc_j, vc_f, vc_d, vc_r, vc_n]) ?_
  intro S0 E0 R p e s m args below meth c ls hf hex hRf hRl hRc K0 htab hr hlocks hEV hA hAo hOP hl
  have K0 : CallFix p m c cL_leavesByTicks 4 s args GW RL := K0
  have hx := K0.1
  have hb := K0.2.1
  have hown := K0.2.2.2.1
  have hg := K0.2.2.2.2
  have hK := hEV.1.1
  obtain ⟨hPC, v0, ho⟩ := hOP
  have hol : o < s.heap.size := (Array.getElem?_eq_some_iff.mp ho).1
  refine lv_aload_n hx hb dL_leavesByTicks_0 rfl (lv_at hl 2 rfl) ?_
  refine lv_iconst (v := (0)) hx hb dL_leavesByTicks_1 (by decide +kernel) ?_
  refine lv_aload_n hx hb dL_leavesByTicks_2 rfl (lv_at hl 0 rfl) ?_
  refine lv_iload_n hx hb dL_leavesByTicks_3 rfl (lv_at hl 1 rfl) ?_
  refine wr_call (rest := [.int 0, .ref o]) K0 hK ENVC.ok hEV.1 hA (c_X5_leavesByTicks l hfl D w aS sk sv A 0 a1) hf q970 q971 q972 q40 q973 yd_X5_leavesByTicks ⟨by omega, by omega⟩ hRc hPC hl.1 (by rw [vr_ref (by omega)]; rfl) (by simp [vc_i, vc_r]) dL_leavesByTicks_4 (fun r H locs hE hP hS => ?_) (fun X H locs q ce hE hP hS hce hcv hcl => ?_)
  · refine W.eq (g2 := F0 m 7 ls [.int r, .int 0, .ref o]) rfl ?_
    refine lv_i2l hx hb dL_leavesByTicks_7 rfl ?_
    refine o_last K0 hEV.2.2 hAo hP ((hS.2.1 o hol hAo).trans ho) hS dL_leavesByTicks_8 (fun H locs hP ho hS => ?_)
    refine lv_goto (tgt := 21) hx hb dL_leavesByTicks_9 (by decide) ?_
    refine lv_iconst (v := (0)) hx hb dL_leavesByTicks_21 (by decide +kernel) ?_
    exact o_end0 K0 hr hlocks hE hP ho hS dL_leavesByTicks_22
  · have hX := hex X hE
    simp only [List.mem_cons, List.not_mem_nil, or_false] at hX
    rcases hX with rfl | rfl | rfl
    · refine vx_catch (own := RL) (name := "java/util/NoSuchElementException") hown (tableOf []) ⟨0, 9, 12, 21⟩ (tableOf [(0, 9, 15, 15), (0, 9, 18, 36)]) (by rw [htab]; rfl) (fun z hz => ?_) (by decide) (by decide) (hg _ q410) (va_Nw.use rfl (nw42 hEV.1)) hce hcv hcl ?_
      · cases hz
      · refine W.eq (g2 := F0 m 12 ls [.ref q]) rfl ?_
        refine lv_astore_n (i := 3) (lv' := [(3, .ref q), (0, .ref (w.2.2.2.2 0)), (1, .int a1), (2, .ref o)]) hx hb dL_leavesByTicks_12 rfl hl (by decide) rfl (fun ls hl => ?_)
        refine lv_iconst (v := (1)) hx hb dL_leavesByTicks_13 (by decide +kernel) ?_
        exact o_endX K0 hr hlocks hE (by decide +kernel) hP ((hS.2.1 o hol hAo).trans ho) hS dL_leavesByTicks_14
    · refine vx_catch (own := RL) (name := "java/lang/IllegalStateException") hown (tableOf [(0, 9, 12, 21)]) ⟨0, 9, 15, 15⟩ (tableOf [(0, 9, 18, 36)]) (by rw [htab]; rfl) (fun z hz => ?_) (by decide) (by decide) (hg _ q301) (va_Nw.use rfl (nw41 hEV.1)) hce hcv hcl ?_
      · simp only [tableOf, List.map_cons, List.map_nil, List.mem_cons, List.not_mem_nil, or_false] at hz
        subst hz
        exact Or.inr ⟨by decide, "java/util/NoSuchElementException", hg _ q410, hEV.2.1 ("java/lang/IllegalStateException", "java/util/NoSuchElementException") (by simp [exPairs])⟩
      · refine W.eq (g2 := F0 m 15 ls [.ref q]) rfl ?_
        refine lv_astore_n (i := 3) (lv' := [(3, .ref q), (0, .ref (w.2.2.2.2 0)), (1, .int a1), (2, .ref o)]) hx hb dL_leavesByTicks_15 rfl hl (by decide) rfl (fun ls hl => ?_)
        refine lv_iconst (v := (2)) hx hb dL_leavesByTicks_16 (by decide +kernel) ?_
        exact o_endX K0 hr hlocks hE (by decide +kernel) hP ((hS.2.1 o hol hAo).trans ho) hS dL_leavesByTicks_17
    · refine vx_catch (own := RL) (name := "java/lang/UnsupportedOperationException") hown (tableOf [(0, 9, 12, 21), (0, 9, 15, 15)]) ⟨0, 9, 18, 36⟩ (tableOf []) (by rw [htab]; rfl) (fun z hz => ?_) (by decide) (by decide) (hg _ q507) (va_Nw.use rfl (nw43 hEV.1)) hce hcv hcl ?_
      · simp only [tableOf, List.map_cons, List.map_nil, List.mem_cons, List.not_mem_nil, or_false] at hz
        rcases hz with rfl | rfl
        · exact Or.inr ⟨by decide, "java/util/NoSuchElementException", hg _ q410, hEV.2.1 ("java/lang/UnsupportedOperationException", "java/util/NoSuchElementException") (by simp [exPairs])⟩
        · exact Or.inr ⟨by decide, "java/lang/IllegalStateException", hg _ q301, hEV.2.1 ("java/lang/UnsupportedOperationException", "java/lang/IllegalStateException") (by simp [exPairs])⟩
      · refine W.eq (g2 := F0 m 18 ls [.ref q]) rfl ?_
        refine lv_astore_n (i := 3) (lv' := [(3, .ref q), (0, .ref (w.2.2.2.2 0)), (1, .int a1), (2, .ref o)]) hx hb dL_leavesByTicks_18 rfl hl (by decide) rfl (fun ls hl => ?_)
        refine lv_iconst (v := (3)) hx hb dL_leavesByTicks_19 (by decide +kernel) ?_
        exact o_endX K0 hr hlocks hE (by decide +kernel) hP ((hS.2.1 o hol hAo).trans ho) hS dL_leavesByTicks_20
set_option maxHeartbeats 4000000 in
set_option maxRecDepth 100000 in
theorem c_L_nextToLeave (l : Launch) (hfl : l.stackTraces = false) (D : va_G) (w : Wc) (aS : Nat → Nat) (sk sv : Nat) (A : Nat → Prop) (o : Nat) (cJ : ClassId) : CO l yL_nextToLeave cL_nextToLeave 3 [(0, 8, 11, 21)] 10 233 D w (ENVO D w aS sk sv A cJ .long) A o cJ [.ref (w.2.2.2.2 0), .ref o] (f_X5_nextToLeave 0 ) (fun r : Int32 => .long r.toInt64) (exCode [("java/util/NoSuchElementException", 1)]) ["java/util/NoSuchElementException"] := by
  refine CO.ofW (by decide) [(0, .ref (w.2.2.2.2 0)), (1, .ref o)] (by simp [lv_args, vr_cat, vc_i, vc_j, vc_f, vc_d, vc_r, vc_n]) (by simp [lg_sl, vr_cat, vc_i, vc_j, vc_f, vc_d, vc_r, vc_n]) ?_
  intro S0 E0 R p e s m args below meth c ls hf hex hRf hRl hRc K0 htab hr hlocks hEV hA hAo hOP hl
  have K0 : CallFix p m c cL_nextToLeave 3 s args GW RL := K0
  have hx := K0.1
  have hb := K0.2.1
  have hown := K0.2.2.2.1
  have hg := K0.2.2.2.2
  have hK := hEV.1.1
  obtain ⟨hPC, v0, ho⟩ := hOP
  have hol : o < s.heap.size := (Array.getElem?_eq_some_iff.mp ho).1
  refine lv_aload_n hx hb dL_nextToLeave_0 rfl (lv_at hl 1 rfl) ?_
  refine lv_iconst (v := (0)) hx hb dL_nextToLeave_1 (by decide +kernel) ?_
  refine lv_aload_n hx hb dL_nextToLeave_2 rfl (lv_at hl 0 rfl) ?_
  refine wr_call (rest := [.int 0, .ref o]) K0 hK ENVC.ok hEV.1 hA (c_X5_nextToLeave l hfl D w aS sk sv A 0 ) hf q977 q978 q979 q40 q980 yd_X5_nextToLeave ⟨by omega, by omega⟩ hRc hPC hl.1 (by rw [vr_ref (by omega)]; rfl) (by simp [vc_i, vc_r]) dL_nextToLeave_3 (fun r H locs hE hP hS => ?_) (fun X H locs q ce hE hP hS hce hcv hcl => ?_)
  · refine W.eq (g2 := F0 m 6 ls [.int r, .int 0, .ref o]) rfl ?_
    refine lv_i2l hx hb dL_nextToLeave_6 rfl ?_
    refine o_last K0 hEV.2.2 hAo hP ((hS.2.1 o hol hAo).trans ho) hS dL_nextToLeave_7 (fun H locs hP ho hS => ?_)
    refine lv_goto (tgt := 14) hx hb dL_nextToLeave_8 (by decide) ?_
    refine lv_iconst (v := (0)) hx hb dL_nextToLeave_14 (by decide +kernel) ?_
    exact o_end0 K0 hr hlocks hE hP ho hS dL_nextToLeave_15
  · have hX := hex X hE
    simp only [List.mem_cons, List.not_mem_nil, or_false] at hX
    subst hX
    refine vx_catch (own := RL) (name := "java/util/NoSuchElementException") hown (tableOf []) ⟨0, 8, 11, 21⟩ (tableOf []) (by rw [htab]; rfl) (fun z hz => ?_) (by decide) (by decide) (hg _ q410) (va_Nw.use rfl (nw42 hEV.1)) hce hcv hcl ?_
    · cases hz
    · refine W.eq (g2 := F0 m 11 ls [.ref q]) rfl ?_
      refine lv_astore_n (i := 2) (lv' := [(2, .ref q), (0, .ref (w.2.2.2.2 0)), (1, .ref o)]) hx hb dL_nextToLeave_11 rfl hl (by decide) rfl (fun ls hl => ?_)
      refine lv_iconst (v := (1)) hx hb dL_nextToLeave_12 (by decide +kernel) ?_
      exact o_endX K0 hr hlocks hE (by decide +kernel) hP ((hS.2.1 o hol hAo).trans ho) hS dL_nextToLeave_13
set_option maxHeartbeats 4000000 in
set_option maxRecDepth 100000 in
theorem c_L_traceLength (l : Launch) (hfl : l.stackTraces = false) (D : va_G) (w : Wc) (aS : Nat → Nat) (sk sv : Nat) (A : Nat → Prop) (o : Nat) (cJ : ClassId) (a1 : Int32) : CO l yL_traceLength cL_traceLength 4 [(0, 9, 12, 21)] 9 165 D w (ENVO D w aS sk sv A cJ .long) A o cJ [.ref (w.2.2.2.2 0), .int a1, .ref o] (f_X5_traceLength 0 a1) (fun r : Int32 => .long r.toInt64) (exCode [("java/util/NoSuchElementException", 1)]) ["java/util/NoSuchElementException"] := by
  refine CO.ofW (by decide) [(0, .ref (w.2.2.2.2 0)), (1, .int a1), (2, .ref o)] (by simp [lv_args, vr_cat, vc_i, vc_j, vc_f, vc_d, vc_r, vc_n]) (by simp [lg_sl, vr_cat, vc_i, vc_j, vc_f, vc_d, vc_r, vc_n]) ?_
  intro S0 E0 R p e s m args below meth c ls hf hex hRf hRl hRc K0 htab hr hlocks hEV hA hAo hOP hl
  have K0 : CallFix p m c cL_traceLength 4 s args GW RL := K0
  have hx := K0.1
  have hb := K0.2.1
  have hown := K0.2.2.2.1
  have hg := K0.2.2.2.2
  have hK := hEV.1.1
  obtain ⟨hPC, v0, ho⟩ := hOP
  have hol : o < s.heap.size := (Array.getElem?_eq_some_iff.mp ho).1
  refine lv_aload_n hx hb dL_traceLength_0 rfl (lv_at hl 2 rfl) ?_
  refine lv_iconst (v := (0)) hx hb dL_traceLength_1 (by decide +kernel) ?_
  refine lv_aload_n hx hb dL_traceLength_2 rfl (lv_at hl 0 rfl) ?_
  refine lv_iload_n hx hb dL_traceLength_3 rfl (lv_at hl 1 rfl) ?_
  refine wr_call (rest := [.int 0, .ref o]) K0 hK ENVC.ok hEV.1 hA (c_X5_traceLength l hfl D w aS sk sv A 0 a1) hf q985 q986 q987 q40 q988 yd_X5_traceLength ⟨by omega, by omega⟩ hRc hPC hl.1 (by rw [vr_ref (by omega)]; rfl) (by simp [vc_i, vc_r]) dL_traceLength_4 (fun r H locs hE hP hS => ?_) (fun X H locs q ce hE hP hS hce hcv hcl => ?_)
  · refine W.eq (g2 := F0 m 7 ls [.int r, .int 0, .ref o]) rfl ?_
    refine lv_i2l hx hb dL_traceLength_7 rfl ?_
    refine o_last K0 hEV.2.2 hAo hP ((hS.2.1 o hol hAo).trans ho) hS dL_traceLength_8 (fun H locs hP ho hS => ?_)
    refine lv_goto (tgt := 15) hx hb dL_traceLength_9 (by decide) ?_
    refine lv_iconst (v := (0)) hx hb dL_traceLength_15 (by decide +kernel) ?_
    exact o_end0 K0 hr hlocks hE hP ho hS dL_traceLength_16
  · have hX := hex X hE
    simp only [List.mem_cons, List.not_mem_nil, or_false] at hX
    subst hX
    refine vx_catch (own := RL) (name := "java/util/NoSuchElementException") hown (tableOf []) ⟨0, 9, 12, 21⟩ (tableOf []) (by rw [htab]; rfl) (fun z hz => ?_) (by decide) (by decide) (hg _ q410) (va_Nw.use rfl (nw42 hEV.1)) hce hcv hcl ?_
    · cases hz
    · refine W.eq (g2 := F0 m 12 ls [.ref q]) rfl ?_
      refine lv_astore_n (i := 3) (lv' := [(3, .ref q), (0, .ref (w.2.2.2.2 0)), (1, .int a1), (2, .ref o)]) hx hb dL_traceLength_12 rfl hl (by decide) rfl (fun ls hl => ?_)
      refine lv_iconst (v := (1)) hx hb dL_traceLength_13 (by decide +kernel) ?_
      exact o_endX K0 hr hlocks hE (by decide +kernel) hP ((hS.2.1 o hol hAo).trans ho) hS dL_traceLength_14
set_option maxHeartbeats 4000000 in
set_option maxRecDepth 100000 in
theorem c_L_traceAt (l : Launch) (hfl : l.stackTraces = false) (D : va_G) (w : Wc) (aS : Nat → Nat) (sk sv : Nat) (A : Nat → Prop) (o : Nat) (cJ : ClassId) (a1 : Int32) (a2 : Int32) : CO l yL_traceAt cL_traceAt 5 [(0, 10, 13, 21), (0, 10, 17, 61)] 9 167 D w (ENVO D w aS sk sv A cJ .long) A o cJ [.ref (w.2.2.2.2 0), .int a1, .int a2, .ref o] (f_X5_traceAt 0 a1 a2) (fun r : Int32 => .long r.toInt64) (exCode [("java/util/NoSuchElementException", 1), ("java/lang/IndexOutOfBoundsException", 2)]) ["java/util/NoSuchElementException", "java/lang/IndexOutOfBoundsException"] := by
  refine CO.ofW (by decide) [(0, .ref (w.2.2.2.2 0)), (1, .int a1), (2, .int a2), (3, .ref o)] (by simp [lv_args, vr_cat, vc_i, vc_j, vc_f, vc_d, vc_r, vc_n]) (by simp [lg_sl, vr_cat, vc_i, vc_j, vc_f, vc_d, vc_r, vc_n]) ?_
  intro S0 E0 R p e s m args below meth c ls hf hex hRf hRl hRc K0 htab hr hlocks hEV hA hAo hOP hl
  have K0 : CallFix p m c cL_traceAt 5 s args GW RL := K0
  have hx := K0.1
  have hb := K0.2.1
  have hown := K0.2.2.2.1
  have hg := K0.2.2.2.2
  have hK := hEV.1.1
  obtain ⟨hPC, v0, ho⟩ := hOP
  have hol : o < s.heap.size := (Array.getElem?_eq_some_iff.mp ho).1
  refine lv_aload_n hx hb dL_traceAt_0 rfl (lv_at hl 3 rfl) ?_
  refine lv_iconst (v := (0)) hx hb dL_traceAt_1 (by decide +kernel) ?_
  refine lv_aload_n hx hb dL_traceAt_2 rfl (lv_at hl 0 rfl) ?_
  refine lv_iload_n hx hb dL_traceAt_3 rfl (lv_at hl 1 rfl) ?_
  refine lv_iload_n hx hb dL_traceAt_4 rfl (lv_at hl 2 rfl) ?_
  refine wr_call (rest := [.int 0, .ref o]) K0 hK ENVC.ok hEV.1 hA (c_X5_traceAt l hfl D w aS sk sv A 0 a1 a2) hf q996 q997 q998 q40 q999 yd_X5_traceAt ⟨by omega, by omega⟩ hRc hPC hl.1 (by rw [vr_ref (by omega)]; rfl) (by simp [vc_i, vc_r]) dL_traceAt_5 (fun r H locs hE hP hS => ?_) (fun X H locs q ce hE hP hS hce hcv hcl => ?_)
  · refine W.eq (g2 := F0 m 8 ls [.int r, .int 0, .ref o]) rfl ?_
    refine lv_i2l hx hb dL_traceAt_8 rfl ?_
    refine o_last K0 hEV.2.2 hAo hP ((hS.2.1 o hol hAo).trans ho) hS dL_traceAt_9 (fun H locs hP ho hS => ?_)
    refine lv_goto (tgt := 21) hx hb dL_traceAt_10 (by decide) ?_
    refine lv_iconst (v := (0)) hx hb dL_traceAt_21 (by decide +kernel) ?_
    exact o_end0 K0 hr hlocks hE hP ho hS dL_traceAt_22
  · have hX := hex X hE
    simp only [List.mem_cons, List.not_mem_nil, or_false] at hX
    rcases hX with rfl | rfl
    · refine vx_catch (own := RL) (name := "java/util/NoSuchElementException") hown (tableOf []) ⟨0, 10, 13, 21⟩ (tableOf [(0, 10, 17, 61)]) (by rw [htab]; rfl) (fun z hz => ?_) (by decide) (by decide) (hg _ q410) (va_Nw.use rfl (nw42 hEV.1)) hce hcv hcl ?_
      · cases hz
      · refine W.eq (g2 := F0 m 13 ls [.ref q]) rfl ?_
        refine lv_astore (lv' := [(4, .ref q), (0, .ref (w.2.2.2.2 0)), (1, .int a1), (2, .int a2), (3, .ref o)]) hx hb dL_traceAt_13 hl (by decide) rfl (fun ls hl => ?_)
        refine lv_iconst (v := (1)) hx hb dL_traceAt_15 (by decide +kernel) ?_
        exact o_endX K0 hr hlocks hE (by decide +kernel) hP ((hS.2.1 o hol hAo).trans ho) hS dL_traceAt_16
    · refine vx_catch (own := RL) (name := "java/lang/IndexOutOfBoundsException") hown (tableOf [(0, 10, 13, 21)]) ⟨0, 10, 17, 61⟩ (tableOf []) (by rw [htab]; rfl) (fun z hz => ?_) (by decide) (by decide) (hg _ q797) (va_Nw.use rfl (nw44 hEV.1)) hce hcv hcl ?_
      · simp only [tableOf, List.map_cons, List.map_nil, List.mem_cons, List.not_mem_nil, or_false] at hz
        subst hz
        exact Or.inr ⟨by decide, "java/util/NoSuchElementException", hg _ q410, hEV.2.1 ("java/lang/IndexOutOfBoundsException", "java/util/NoSuchElementException") (by simp [exPairs])⟩
      · refine W.eq (g2 := F0 m 17 ls [.ref q]) rfl ?_
        refine lv_astore (lv' := [(4, .ref q), (0, .ref (w.2.2.2.2 0)), (1, .int a1), (2, .int a2), (3, .ref o)]) hx hb dL_traceAt_17 hl (by decide) rfl (fun ls hl => ?_)
        refine lv_iconst (v := (2)) hx hb dL_traceAt_19 (by decide +kernel) ?_
        exact o_endX K0 hr hlocks hE (by decide +kernel) hP ((hS.2.1 o hol hAo).trans ho) hS dL_traceAt_20
set_option maxHeartbeats 4000000 in
set_option maxRecDepth 100000 in
theorem c_L_countOf (l : Launch) (hfl : l.stackTraces = false) (D : va_G) (w : Wc) (aS : Nat → Nat) (sk sv : Nat) (A : Nat → Prop) (o : Nat) (cJ : ClassId) (a1 : Int32) : CO l yL_countOf cL_countOf 4 [(0, 9, 12, 13)] 7 163 D w (ENVO D w aS sk sv A cJ .long) A o cJ [.ref (w.2.2.2.2 0), .int a1, .ref o] (f_X5_countOf 0 a1) (fun r : Int32 => .long r.toInt64) (exCode [("java/lang/IllegalArgumentException", 1)]) ["java/lang/IllegalArgumentException"] := by
  refine CO.ofW (by decide) [(0, .ref (w.2.2.2.2 0)), (1, .int a1), (2, .ref o)] (by simp [lv_args, vr_cat, vc_i, vc_j, vc_f, vc_d, vc_r, vc_n]) (by simp [lg_sl, vr_cat, vc_i, vc_j, vc_f, vc_d, vc_r, vc_n]) ?_
  intro S0 E0 R p e s m args below meth c ls hf hex hRf hRl hRc K0 htab hr hlocks hEV hA hAo hOP hl
  have K0 : CallFix p m c cL_countOf 4 s args GW RL := K0
  have hx := K0.1
  have hb := K0.2.1
  have hown := K0.2.2.2.1
  have hg := K0.2.2.2.2
  have hK := hEV.1.1
  obtain ⟨hPC, v0, ho⟩ := hOP
  have hol : o < s.heap.size := (Array.getElem?_eq_some_iff.mp ho).1
  refine lv_aload_n hx hb dL_countOf_0 rfl (lv_at hl 2 rfl) ?_
  refine lv_iconst (v := (0)) hx hb dL_countOf_1 (by decide +kernel) ?_
  refine lv_aload_n hx hb dL_countOf_2 rfl (lv_at hl 0 rfl) ?_
  refine lv_iload_n hx hb dL_countOf_3 rfl (lv_at hl 1 rfl) ?_
  refine wr_call (rest := [.int 0, .ref o]) K0 hK ENVC.ok hEV.1 hA (c_X5_countOf l hfl D w aS sk sv A 0 a1) hf q1013 q1014 q1015 q40 q1016 yd_X5_countOf ⟨by omega, by omega⟩ hRc hPC hl.1 (by rw [vr_ref (by omega)]; rfl) (by simp [vc_i, vc_r]) dL_countOf_4 (fun r H locs hE hP hS => ?_) (fun X H locs q ce hE hP hS hce hcv hcl => ?_)
  · refine W.eq (g2 := F0 m 7 ls [.int r, .int 0, .ref o]) rfl ?_
    refine lv_i2l hx hb dL_countOf_7 rfl ?_
    refine o_last K0 hEV.2.2 hAo hP ((hS.2.1 o hol hAo).trans ho) hS dL_countOf_8 (fun H locs hP ho hS => ?_)
    refine lv_goto (tgt := 15) hx hb dL_countOf_9 (by decide) ?_
    refine lv_iconst (v := (0)) hx hb dL_countOf_15 (by decide +kernel) ?_
    exact o_end0 K0 hr hlocks hE hP ho hS dL_countOf_16
  · have hX := hex X hE
    simp only [List.mem_cons, List.not_mem_nil, or_false] at hX
    subst hX
    refine vx_catch (own := RL) (name := "java/lang/IllegalArgumentException") hown (tableOf []) ⟨0, 9, 12, 13⟩ (tableOf []) (by rw [htab]; rfl) (fun z hz => ?_) (by decide) (by decide) (hg _ q300) (va_Nw.use rfl (nw40 hEV.1)) hce hcv hcl ?_
    · cases hz
    · refine W.eq (g2 := F0 m 12 ls [.ref q]) rfl ?_
      refine lv_astore_n (i := 3) (lv' := [(3, .ref q), (0, .ref (w.2.2.2.2 0)), (1, .int a1), (2, .ref o)]) hx hb dL_countOf_12 rfl hl (by decide) rfl (fun ls hl => ?_)
      refine lv_iconst (v := (1)) hx hb dL_countOf_13 (by decide +kernel) ?_
      exact o_endX K0 hr hlocks hE (by decide +kernel) hP ((hS.2.1 o hol hAo).trans ho) hS dL_countOf_14
set_option maxHeartbeats 4000000 in
set_option maxRecDepth 100000 in
theorem c_L_meanTime (l : Launch) (hfl : l.stackTraces = false) (D : va_G) (w : Wc) (aS : Nat → Nat) (sk sv : Nat) (A : Nat → Prop) (o : Nat) (cJ : ClassId) : CO l yL_meanTime cL_meanTime 3 [(0, 7, 10, 116)] 7 121 D w (ENVO D w aS sk sv A cJ .double) A o cJ [.ref (w.2.2.2.2 0), .ref o] (f_X5_meanTime 0 ) (fun r : UInt64 => .double r) (exCode [("java/lang/ArithmeticException", 1)]) ["java/lang/ArithmeticException"] := by
  refine CO.ofW (by decide) [(0, .ref (w.2.2.2.2 0)), (1, .ref o)] (by simp [lv_args, vr_cat, vc_i, vc_j, vc_f, vc_d, vc_r, vc_n]) (by simp [lg_sl, vr_cat, vc_i, vc_j, vc_f, vc_d, vc_r, vc_n]) ?_
  intro S0 E0 R p e s m args below meth c ls hf hex hRf hRl hRc K0 htab hr hlocks hEV hA hAo hOP hl
  have K0 : CallFix p m c cL_meanTime 3 s args GW RL := K0
  have hx := K0.1
  have hb := K0.2.1
  have hown := K0.2.2.2.1
  have hg := K0.2.2.2.2
  have hK := hEV.1.1
  obtain ⟨hPC, v0, ho⟩ := hOP
  have hol : o < s.heap.size := (Array.getElem?_eq_some_iff.mp ho).1
  refine lv_aload_n hx hb dL_meanTime_0 rfl (lv_at hl 1 rfl) ?_
  refine lv_iconst (v := (0)) hx hb dL_meanTime_1 (by decide +kernel) ?_
  refine lv_aload_n hx hb dL_meanTime_2 rfl (lv_at hl 0 rfl) ?_
  refine wr_call (rest := [.int 0, .ref o]) K0 hK ENVC.ok hEV.1 hA (c_X5_meanTime l hfl D w aS sk sv A 0 ) hf q1055 q1056 q1057 q40 q1058 yd_X5_meanTime ⟨by omega, by omega⟩ hRc hPC hl.1 (by rw [vr_ref (by omega)]; rfl) (by simp [vc_i, vc_r]) dL_meanTime_3 (fun r H locs hE hP hS => ?_) (fun X H locs q ce hE hP hS hce hcv hcl => ?_)
  · refine W.eq (g2 := F0 m 6 ls [.double r, .int 0, .ref o]) rfl ?_
    refine o_dast K0 hEV.2.2 hAo hP ((hS.2.1 o hol hAo).trans ho) hS dL_meanTime_6 (fun H locs hP ho hS => ?_)
    refine lv_goto (tgt := 13) hx hb dL_meanTime_7 (by decide) ?_
    refine lv_iconst (v := (0)) hx hb dL_meanTime_13 (by decide +kernel) ?_
    exact o_end0 K0 hr hlocks hE hP ho hS dL_meanTime_14
  · have hX := hex X hE
    simp only [List.mem_cons, List.not_mem_nil, or_false] at hX
    subst hX
    refine vx_catch (own := RL) (name := "java/lang/ArithmeticException") hown (tableOf []) ⟨0, 7, 10, 116⟩ (tableOf []) (by rw [htab]; rfl) (fun z hz => ?_) (by decide) (by decide) (hg _ q1031) (va_Nw.use rfl (nw45 hEV.1)) hce hcv hcl ?_
    · cases hz
    · refine W.eq (g2 := F0 m 10 ls [.ref q]) rfl ?_
      refine lv_astore_n (i := 2) (lv' := [(2, .ref q), (0, .ref (w.2.2.2.2 0)), (1, .ref o)]) hx hb dL_meanTime_10 rfl hl (by decide) rfl (fun ls hl => ?_)
      refine lv_iconst (v := (1)) hx hb dL_meanTime_11 (by decide +kernel) ?_
      exact o_endX K0 hr hlocks hE (by decide +kernel) hP ((hS.2.1 o hol hAo).trans ho) hS dL_meanTime_12
