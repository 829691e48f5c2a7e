/-! part 26c: the law's own method of a float, taken as a double -/
def f_L_lackShare : PM (UInt64 ⊕ String) := bndX (f_X5_lackShare 0) (fun r => if FP.f2d r &&& (9223372036854775807 : UInt64) ≤ 9218868437227405312 then rtX (FP.f2d r) else fail)
set_option maxHeartbeats 4000000 in
set_option maxRecDepth 100000 in
theorem c_L_lackShare (l : Launch) (hfl : l.stackTraces = false) (D : va_G) (w : Wc) (aS : Nat → Nat) (sk sv : Nat) (A : Nat → Prop) (o : Nat) (cJ : ClassId) : CO l yL_lackShare cL_lackShare 3 [(0, 8, 11, 116)] 7 164 D w (ENVO D w aS sk sv A cJ .double) A o cJ [.ref (w.2.2.2.2 0), .ref o] f_L_lackShare (fun r : UInt64 => .double r) (exCode [("java/lang/ArithmeticException", 1)]) ["java/lang/ArithmeticException"] := by
  refine CO.ofW (by decide) [(0, .ref (w.2.2.2.2 0)), (1, .ref o)] (by simp [lv_args, vr_cat, vc_i, vc_j, vc_f, vc_d, vc_r, vc_n]) (by simp [lg_sl, vr_cat, vc_i, vc_j, vc_f, vc_d, vc_r, vc_n]) ?_
  intro S0 E0 R p e s m args below meth c ls hf hex hRf hRl hRc K0 htab hr hlocks hEV hA hAo hOP hl
  have K0 : CallFix p m c cL_lackShare 3 s args GW RL := K0
  have hx := K0.1
  have hb := K0.2.1
  have hown := K0.2.2.2.1
  have hg := K0.2.2.2.2
  have hK := hEV.1.1
  unfold f_L_lackShare bndX at hf
  obtain ⟨e0, S1, hf, hk⟩ := bnd_inv hf
  have hE0 : E0.2 = S1 ∧ ((∃ r : UInt32, e0 = Sum.inl r ∧ E0.1 = Sum.inl (FP.f2d r) ∧ vf_n64 (FP.f2d r)) ∨ (∃ X : String, e0 = Sum.inr X ∧ E0.1 = Sum.inr X)) := by
    cases e0 with
    | inl r =>
      dsimp only at hk
      obtain ⟨hc, hk⟩ := if_ok hk
      have h : (Sum.inl (FP.f2d r), S1) = E0 := Option.some.inj hk
      subst h
      exact ⟨rfl, Or.inl ⟨r, rfl, rfl, hc⟩⟩
    | inr X =>
      have h : (Sum.inr X, S1) = E0 := Option.some.inj hk
      subst h
      exact ⟨rfl, Or.inr ⟨X, rfl, rfl⟩⟩
  obtain ⟨hS1, hm⟩ := hE0
  subst hS1
  obtain ⟨hPC, v0, ho⟩ := hOP
  have hol : o < s.heap.size := (Array.getElem?_eq_some_iff.mp ho).1
  refine lv_aload_n hx hb dL_lackShare_0 rfl (lv_at hl 1 rfl) ?_
  refine lv_iconst (v := (0)) hx hb dL_lackShare_1 (by decide +kernel) ?_
  refine lv_aload_n hx hb dL_lackShare_2 rfl (lv_at hl 0 rfl) ?_
  refine wr_call (rest := [.int 0, .ref o]) K0 hK ENVC.ok hEV.1 hA (c_X5_lackShare l hfl D w aS sk sv A 0 ) hf q1045 q1046 q1047 q40 q1048 yd_X5_lackShare ⟨by omega, by omega⟩ hRc hPC hl.1 (by rw [vr_ref (by omega)]; rfl) (by simp [vc_i, vc_r]) dL_lackShare_3 (fun r H locs hE hP hS => ?_) (fun X H locs q ce hE hP hS hce hcv hcl => ?_)
  · obtain ⟨hE, hn⟩ : E0.1 = .inl (FP.f2d r) ∧ vf_n64 (FP.f2d r) := by
      rcases hm with ⟨r1, h1, h2, h3⟩ | ⟨X, h1, h2⟩
      · cases hE.symm.trans h1; exact ⟨h2, h3⟩
      · cases hE.symm.trans h1
    refine W.eq (g2 := F0 m 6 ls [.float r, .int 0, .ref o]) rfl ?_
    refine lv_f2d hx hb dL_lackShare_6 hn ?_
    refine o_dast K0 hEV.2.2 hAo hP ((hS.2.1 o hol hAo).trans ho) hS dL_lackShare_7 (fun H locs hP ho hS => ?_)
    refine lv_goto (tgt := 14) hx hb dL_lackShare_8 (by decide) ?_
    refine lv_iconst (v := (0)) hx hb dL_lackShare_14 (by decide +kernel) ?_
    exact o_end0 K0 hr hlocks hE hP ho hS dL_lackShare_15
  · have hE : E0.1 = .inr X := by
      rcases hm with ⟨r1, h1, h2, h3⟩ | ⟨X1, h1, h2⟩
      · cases hE.symm.trans h1
      · cases hE.symm.trans h1; exact h2
    have hX := hex X hE
    simp only [List.mem_cons, List.not_mem_nil, or_false] at hX
    subst hX
    refine vx_catch (own := RL) (name := "java/lang/ArithmeticException") hown (tableOf []) ⟨0, 8, 11, 116⟩ (tableOf []) (by rw [htab]; rfl) (fun z hz => ?_) (by decide) (by decide) (hg _ q1031) (va_Nw.use rfl (nw45 hEV.1)) hce hcv hcl ?_
    · cases hz
    · refine W.eq (g2 := F0 m 11 ls [.ref q]) rfl ?_
      refine lv_astore_n (i := 2) (lv' := [(2, .ref q), (0, .ref (w.2.2.2.2 0)), (1, .ref o)]) hx hb dL_lackShare_11 rfl hl (by decide) rfl (fun ls hl => ?_)
      refine lv_iconst (v := (1)) hx hb dL_lackShare_12 (by decide +kernel) ?_
      exact o_endX K0 hr hlocks hE (by decide +kernel) hP ((hS.2.1 o hol hAo).trans ho) hS dL_lackShare_13
