section
-- ===== PART A: goes FIRST, ahead of the names: the tables' words, and 'selects' of the private methods out of them =====
/-- a private method of a class that the tables say can be made, by its rows of tables_1 -/
def lw_okq (q : MethodName × Nat) : Prop := (q.1.cls ≠ "java/lang/invoke/MethodHandle" ∧ q.1.cls ≠ "java/lang/invoke/VarHandle") ∧ Cond.instantiable q.1.cls q.2 ∈ tables_1 ∧ Cond.privateMethod q.1 ∈ tables_1 ∧ Cond.instanceMethod q.1 ∈ tables_1
theorem lw_p0 : lw_okq (⟨"java/lang/Throwable", "fillInStackTrace", "(I)Ljava/lang/Throwable;"⟩, 6) := ⟨⟨by decide +kernel, by decide +kernel⟩, List.mem_of_getElem? (i := 313) (by decide +kernel), List.mem_of_getElem? (i := 311) (by decide +kernel), List.mem_of_getElem? (i := 312) (by decide +kernel)⟩
theorem lw_p1 : lw_okq (⟨"Lineclock", "requireCar", "(I)LLineclock$Car;"⟩, 2) := ⟨⟨by decide +kernel, by decide +kernel⟩, List.mem_of_getElem? (i := 26) (by decide +kernel), List.mem_of_getElem? (i := 442) (by decide +kernel), List.mem_of_getElem? (i := 443) (by decide +kernel)⟩
theorem lw_p2 : lw_okq (⟨"Lineclock", "requireStation", "(I)LLineclock$Station;"⟩, 2) := ⟨⟨by decide +kernel, by decide +kernel⟩, List.mem_of_getElem? (i := 26) (by decide +kernel), List.mem_of_getElem? (i := 474) (by decide +kernel), List.mem_of_getElem? (i := 475) (by decide +kernel)⟩
theorem lw_p3 : lw_okq (⟨"Lineclock$Line", "fillShelves", "()V"⟩, 10) := ⟨⟨by decide +kernel, by decide +kernel⟩, List.mem_of_getElem? (i := 34) (by decide +kernel), List.mem_of_getElem? (i := 532) (by decide +kernel), List.mem_of_getElem? (i := 533) (by decide +kernel)⟩
theorem lw_p4 : lw_okq (⟨"Lineclock$Line", "countDown", "(I)V"⟩, 10) := ⟨⟨by decide +kernel, by decide +kernel⟩, List.mem_of_getElem? (i := 34) (by decide +kernel), List.mem_of_getElem? (i := 541) (by decide +kernel), List.mem_of_getElem? (i := 542) (by decide +kernel)⟩
theorem lw_p5 : lw_okq (⟨"Lineclock$Line", "standingAt", "(I)LLineclock$Car;"⟩, 10) := ⟨⟨by decide +kernel, by decide +kernel⟩, List.mem_of_getElem? (i := 34) (by decide +kernel), List.mem_of_getElem? (i := 545) (by decide +kernel), List.mem_of_getElem? (i := 546) (by decide +kernel)⟩
theorem lw_p6 : lw_okq (⟨"Lineclock$Line", "moveOn", "(I)V"⟩, 10) := ⟨⟨by decide +kernel, by decide +kernel⟩, List.mem_of_getElem? (i := 34) (by decide +kernel), List.mem_of_getElem? (i := 552) (by decide +kernel), List.mem_of_getElem? (i := 553) (by decide +kernel)⟩
theorem lw_p7 : lw_okq (⟨"Lineclock$Line", "isHeldUp", "(LLineclock$Car;)Z"⟩, 10) := ⟨⟨by decide +kernel, by decide +kernel⟩, List.mem_of_getElem? (i := 34) (by decide +kernel), List.mem_of_getElem? (i := 556) (by decide +kernel), List.mem_of_getElem? (i := 557) (by decide +kernel)⟩
theorem lw_p8 : lw_okq (⟨"Lineclock$Line", "goesAlong", "(LLineclock$Car;)Z"⟩, 10) := ⟨⟨by decide +kernel, by decide +kernel⟩, List.mem_of_getElem? (i := 34) (by decide +kernel), List.mem_of_getElem? (i := 560) (by decide +kernel), List.mem_of_getElem? (i := 561) (by decide +kernel)⟩
theorem lw_p9 : lw_okq (⟨"Lineclock$Line", "isFree", "(I)Z"⟩, 10) := ⟨⟨by decide +kernel, by decide +kernel⟩, List.mem_of_getElem? (i := 34) (by decide +kernel), List.mem_of_getElem? (i := 564) (by decide +kernel), List.mem_of_getElem? (i := 565) (by decide +kernel)⟩
theorem lw_p10 : lw_okq (⟨"Lineclock$Line", "enter", "(LLineclock$Car;IZ)V"⟩, 10) := ⟨⟨by decide +kernel, by decide +kernel⟩, List.mem_of_getElem? (i := 34) (by decide +kernel), List.mem_of_getElem? (i := 568) (by decide +kernel), List.mem_of_getElem? (i := 569) (by decide +kernel)⟩
theorem lw_p11 : lw_okq (⟨"Lineclock$Line", "note", "(LLineclock$Car;C)V"⟩, 10) := ⟨⟨by decide +kernel, by decide +kernel⟩, List.mem_of_getElem? (i := 34) (by decide +kernel), List.mem_of_getElem? (i := 589) (by decide +kernel), List.mem_of_getElem? (i := 590) (by decide +kernel)⟩
theorem lw_p12 : lw_okq (⟨"Lineclock$Trace", "grow", "()V"⟩, 3) := ⟨⟨by decide +kernel, by decide +kernel⟩, List.mem_of_getElem? (i := 101) (by decide +kernel), List.mem_of_getElem? (i := 597) (by decide +kernel), List.mem_of_getElem? (i := 598) (by decide +kernel)⟩
theorem lw_p13 : lw_okq (⟨"Lineclock$Line", "leave", "(LLineclock$Car;)V"⟩, 10) := ⟨⟨by decide +kernel, by decide +kernel⟩, List.mem_of_getElem? (i := 34) (by decide +kernel), List.mem_of_getElem? (i := 685) (by decide +kernel), List.mem_of_getElem? (i := 686) (by decide +kernel)⟩
theorem lw_p14 : lw_okq (⟨"Lineclock$Line", "comeToLoop", "(LLineclock$Car;)V"⟩, 10) := ⟨⟨by decide +kernel, by decide +kernel⟩, List.mem_of_getElem? (i := 34) (by decide +kernel), List.mem_of_getElem? (i := 693) (by decide +kernel), List.mem_of_getElem? (i := 694) (by decide +kernel)⟩
theorem lw_p15 : lw_okq (⟨"Lineclock$Line", "enterFromLoop", "()V"⟩, 10) := ⟨⟨by decide +kernel, by decide +kernel⟩, List.mem_of_getElem? (i := 34) (by decide +kernel), List.mem_of_getElem? (i := 697) (by decide +kernel), List.mem_of_getElem? (i := 698) (by decide +kernel)⟩
def lw_privs_1 : List (MethodName × Nat) := [(⟨"java/lang/Throwable", "fillInStackTrace", "(I)Ljava/lang/Throwable;"⟩, 6), (⟨"Lineclock", "requireCar", "(I)LLineclock$Car;"⟩, 2), (⟨"Lineclock", "requireStation", "(I)LLineclock$Station;"⟩, 2), (⟨"Lineclock$Line", "fillShelves", "()V"⟩, 10), (⟨"Lineclock$Line", "countDown", "(I)V"⟩, 10), (⟨"Lineclock$Line", "standingAt", "(I)LLineclock$Car;"⟩, 10), (⟨"Lineclock$Line", "moveOn", "(I)V"⟩, 10), (⟨"Lineclock$Line", "isHeldUp", "(LLineclock$Car;)Z"⟩, 10), (⟨"Lineclock$Line", "goesAlong", "(LLineclock$Car;)Z"⟩, 10), (⟨"Lineclock$Line", "isFree", "(I)Z"⟩, 10), (⟨"Lineclock$Line", "enter", "(LLineclock$Car;IZ)V"⟩, 10), (⟨"Lineclock$Line", "note", "(LLineclock$Car;C)V"⟩, 10), (⟨"Lineclock$Trace", "grow", "()V"⟩, 3), (⟨"Lineclock$Line", "leave", "(LLineclock$Car;)V"⟩, 10), (⟨"Lineclock$Line", "comeToLoop", "(LLineclock$Car;)V"⟩, 10), (⟨"Lineclock$Line", "enterFromLoop", "()V"⟩, 10)]
theorem lw_r1 : ∀ q ∈ lw_privs_1, lw_okq q := List.forall_mem_cons.mpr ⟨lw_p0, List.forall_mem_cons.mpr ⟨lw_p1, List.forall_mem_cons.mpr ⟨lw_p2, List.forall_mem_cons.mpr ⟨lw_p3, List.forall_mem_cons.mpr ⟨lw_p4, List.forall_mem_cons.mpr ⟨lw_p5, List.forall_mem_cons.mpr ⟨lw_p6, List.forall_mem_cons.mpr ⟨lw_p7, List.forall_mem_cons.mpr ⟨lw_p8, List.forall_mem_cons.mpr ⟨lw_p9, List.forall_mem_cons.mpr ⟨lw_p10, List.forall_mem_cons.mpr ⟨lw_p11, List.forall_mem_cons.mpr ⟨lw_p12, List.forall_mem_cons.mpr ⟨lw_p13, List.forall_mem_cons.mpr ⟨lw_p14, List.forall_mem_cons.mpr ⟨lw_p15, fun _ h => absurd h List.not_mem_nil⟩⟩⟩⟩⟩⟩⟩⟩⟩⟩⟩⟩⟩⟩⟩⟩
theorem lw_p16 : lw_okq (⟨"Lineclock$Line", "enterFromWaiting", "()V"⟩, 10) := ⟨⟨by decide +kernel, by decide +kernel⟩, List.mem_of_getElem? (i := 34) (by decide +kernel), List.mem_of_getElem? (i := 711) (by decide +kernel), List.mem_of_getElem? (i := 712) (by decide +kernel)⟩
theorem lw_p17 : lw_okq (⟨"Lineclock", "requireStanding", "(I)LLineclock$Car;"⟩, 2) := ⟨⟨by decide +kernel, by decide +kernel⟩, List.mem_of_getElem? (i := 26) (by decide +kernel), List.mem_of_getElem? (i := 729) (by decide +kernel), List.mem_of_getElem? (i := 730) (by decide +kernel)⟩
theorem lw_p18 : lw_okq (⟨"Lineclock", "requireNotGone", "(I)V"⟩, 2) := ⟨⟨by decide +kernel, by decide +kernel⟩, List.mem_of_getElem? (i := 26) (by decide +kernel), List.mem_of_getElem? (i := 876) (by decide +kernel), List.mem_of_getElem? (i := 877) (by decide +kernel)⟩
theorem lw_p19 : lw_okq (⟨"Lineclock$Line", "canEnterFromWaiting", "()Z"⟩, 10) := ⟨⟨by decide +kernel, by decide +kernel⟩, List.mem_of_getElem? (i := 34) (by decide +kernel), List.mem_of_getElem? (i := 908) (by decide +kernel), List.mem_of_getElem? (i := 909) (by decide +kernel)⟩
theorem lw_p20 : lw_okq (⟨"Lineclock$Line", "canEnterFromLoop", "()Z"⟩, 10) := ⟨⟨by decide +kernel, by decide +kernel⟩, List.mem_of_getElem? (i := 34) (by decide +kernel), List.mem_of_getElem? (i := 912) (by decide +kernel), List.mem_of_getElem? (i := 913) (by decide +kernel)⟩
theorem lw_p21 : lw_okq (⟨"Lineclock$Line", "quietTicksAt", "(I)I"⟩, 10) := ⟨⟨by decide +kernel, by decide +kernel⟩, List.mem_of_getElem? (i := 34) (by decide +kernel), List.mem_of_getElem? (i := 916) (by decide +kernel), List.mem_of_getElem? (i := 917) (by decide +kernel)⟩
theorem lw_p22 : lw_okq (⟨"Lineclock", "requireTrace", "(I)LLineclock$Trace;"⟩, 2) := ⟨⟨by decide +kernel, by decide +kernel⟩, List.mem_of_getElem? (i := 26) (by decide +kernel), List.mem_of_getElem? (i := 951) (by decide +kernel), List.mem_of_getElem? (i := 952) (by decide +kernel)⟩
theorem lw_p23 : lw_okq (⟨"LineclockModel", "isCar", "(I)Z"⟩, 20) := ⟨⟨by decide +kernel, by decide +kernel⟩, List.mem_of_getElem? (i := 1026) (by decide +kernel), List.mem_of_getElem? (i := 1131) (by decide +kernel), List.mem_of_getElem? (i := 1132) (by decide +kernel)⟩
theorem lw_p24 : lw_okq (⟨"LineclockModel", "waitsAt", "(I)I"⟩, 20) := ⟨⟨by decide +kernel, by decide +kernel⟩, List.mem_of_getElem? (i := 1026) (by decide +kernel), List.mem_of_getElem? (i := 1135) (by decide +kernel), List.mem_of_getElem? (i := 1136) (by decide +kernel)⟩
theorem lw_p25 : lw_okq (⟨"LineclockModel", "isStation", "(I)Z"⟩, 20) := ⟨⟨by decide +kernel, by decide +kernel⟩, List.mem_of_getElem? (i := 1026) (by decide +kernel), List.mem_of_getElem? (i := 1143) (by decide +kernel), List.mem_of_getElem? (i := 1144) (by decide +kernel)⟩
theorem lw_p26 : lw_okq (⟨"LineclockModel", "ticks", "()V"⟩, 20) := ⟨⟨by decide +kernel, by decide +kernel⟩, List.mem_of_getElem? (i := 1026) (by decide +kernel), List.mem_of_getElem? (i := 1154) (by decide +kernel), List.mem_of_getElem? (i := 1155) (by decide +kernel)⟩
theorem lw_p27 : lw_okq (⟨"LineclockModel", "fillsUp", "()V"⟩, 20) := ⟨⟨by decide +kernel, by decide +kernel⟩, List.mem_of_getElem? (i := 1026) (by decide +kernel), List.mem_of_getElem? (i := 1158) (by decide +kernel), List.mem_of_getElem? (i := 1159) (by decide +kernel)⟩
theorem lw_p28 : lw_okq (⟨"LineclockModel", "goesOn", "(I)V"⟩, 20) := ⟨⟨by decide +kernel, by decide +kernel⟩, List.mem_of_getElem? (i := 1026) (by decide +kernel), List.mem_of_getElem? (i := 1162) (by decide +kernel), List.mem_of_getElem? (i := 1163) (by decide +kernel)⟩
theorem lw_p29 : lw_okq (⟨"LineclockModel", "leavesLine", "(I)V"⟩, 20) := ⟨⟨by decide +kernel, by decide +kernel⟩, List.mem_of_getElem? (i := 1026) (by decide +kernel), List.mem_of_getElem? (i := 1166) (by decide +kernel), List.mem_of_getElem? (i := 1167) (by decide +kernel)⟩
theorem lw_p30 : lw_okq (⟨"LineclockModel", "writes", "(IC)V"⟩, 20) := ⟨⟨by decide +kernel, by decide +kernel⟩, List.mem_of_getElem? (i := 1026) (by decide +kernel), List.mem_of_getElem? (i := 1170) (by decide +kernel), List.mem_of_getElem? (i := 1171) (by decide +kernel)⟩
theorem lw_p31 : lw_okq (⟨"LineclockModel", "enters", "(IIZ)V"⟩, 20) := ⟨⟨by decide +kernel, by decide +kernel⟩, List.mem_of_getElem? (i := 1026) (by decide +kernel), List.mem_of_getElem? (i := 1174) (by decide +kernel), List.mem_of_getElem? (i := 1175) (by decide +kernel)⟩
def lw_privs_2 : List (MethodName × Nat) := [(⟨"Lineclock$Line", "enterFromWaiting", "()V"⟩, 10), (⟨"Lineclock", "requireStanding", "(I)LLineclock$Car;"⟩, 2), (⟨"Lineclock", "requireNotGone", "(I)V"⟩, 2), (⟨"Lineclock$Line", "canEnterFromWaiting", "()Z"⟩, 10), (⟨"Lineclock$Line", "canEnterFromLoop", "()Z"⟩, 10), (⟨"Lineclock$Line", "quietTicksAt", "(I)I"⟩, 10), (⟨"Lineclock", "requireTrace", "(I)LLineclock$Trace;"⟩, 2), (⟨"LineclockModel", "isCar", "(I)Z"⟩, 20), (⟨"LineclockModel", "waitsAt", "(I)I"⟩, 20), (⟨"LineclockModel", "isStation", "(I)Z"⟩, 20), (⟨"LineclockModel", "ticks", "()V"⟩, 20), (⟨"LineclockModel", "fillsUp", "()V"⟩, 20), (⟨"LineclockModel", "goesOn", "(I)V"⟩, 20), (⟨"LineclockModel", "leavesLine", "(I)V"⟩, 20), (⟨"LineclockModel", "writes", "(IC)V"⟩, 20), (⟨"LineclockModel", "enters", "(IIZ)V"⟩, 20)]
theorem lw_r2 : ∀ q ∈ lw_privs_2, lw_okq q := List.forall_mem_cons.mpr ⟨lw_p16, List.forall_mem_cons.mpr ⟨lw_p17, List.forall_mem_cons.mpr ⟨lw_p18, List.forall_mem_cons.mpr ⟨lw_p19, List.forall_mem_cons.mpr ⟨lw_p20, List.forall_mem_cons.mpr ⟨lw_p21, List.forall_mem_cons.mpr ⟨lw_p22, List.forall_mem_cons.mpr ⟨lw_p23, List.forall_mem_cons.mpr ⟨lw_p24, List.forall_mem_cons.mpr ⟨lw_p25, List.forall_mem_cons.mpr ⟨lw_p26, List.forall_mem_cons.mpr ⟨lw_p27, List.forall_mem_cons.mpr ⟨lw_p28, List.forall_mem_cons.mpr ⟨lw_p29, List.forall_mem_cons.mpr ⟨lw_p30, List.forall_mem_cons.mpr ⟨lw_p31, fun _ h => absurd h List.not_mem_nil⟩⟩⟩⟩⟩⟩⟩⟩⟩⟩⟩⟩⟩⟩⟩⟩
theorem lw_p32 : lw_okq (⟨"LineclockModel", "comesBack", "()V"⟩, 20) := ⟨⟨by decide +kernel, by decide +kernel⟩, List.mem_of_getElem? (i := 1026) (by decide +kernel), List.mem_of_getElem? (i := 1178) (by decide +kernel), List.mem_of_getElem? (i := 1179) (by decide +kernel)⟩
theorem lw_p33 : lw_okq (⟨"LineclockModel", "isAsked", "(I)Z"⟩, 20) := ⟨⟨by decide +kernel, by decide +kernel⟩, List.mem_of_getElem? (i := 1026) (by decide +kernel), List.mem_of_getElem? (i := 1201) (by decide +kernel), List.mem_of_getElem? (i := 1202) (by decide +kernel)⟩
theorem lw_p34 : lw_okq (⟨"LineclockModel", "standsAt", "(I)I"⟩, 20) := ⟨⟨by decide +kernel, by decide +kernel⟩, List.mem_of_getElem? (i := 1026) (by decide +kernel), List.mem_of_getElem? (i := 1209) (by decide +kernel), List.mem_of_getElem? (i := 1210) (by decide +kernel)⟩
theorem lw_p35 : lw_okq (⟨"LineclockModel", "listed", "(III)I"⟩, 20) := ⟨⟨by decide +kernel, by decide +kernel⟩, List.mem_of_getElem? (i := 1026) (by decide +kernel), List.mem_of_getElem? (i := 1233) (by decide +kernel), List.mem_of_getElem? (i := 1234) (by decide +kernel)⟩
theorem lw_p36 : lw_okq (⟨"LineclockModel", "keeps", "()V"⟩, 20) := ⟨⟨by decide +kernel, by decide +kernel⟩, List.mem_of_getElem? (i := 1026) (by decide +kernel), List.mem_of_getElem? (i := 1289) (by decide +kernel), List.mem_of_getElem? (i := 1290) (by decide +kernel)⟩
theorem lw_p37 : lw_okq (⟨"LineclockModel", "putsBack", "()V"⟩, 20) := ⟨⟨by decide +kernel, by decide +kernel⟩, List.mem_of_getElem? (i := 1026) (by decide +kernel), List.mem_of_getElem? (i := 1293) (by decide +kernel), List.mem_of_getElem? (i := 1294) (by decide +kernel)⟩
theorem lw_p38 : lw_okq (⟨"LineclockModel", "count", "(C)I"⟩, 20) := ⟨⟨by decide +kernel, by decide +kernel⟩, List.mem_of_getElem? (i := 1026) (by decide +kernel), List.mem_of_getElem? (i := 1318) (by decide +kernel), List.mem_of_getElem? (i := 1319) (by decide +kernel)⟩
def lw_privs_3 : List (MethodName × Nat) := [(⟨"LineclockModel", "comesBack", "()V"⟩, 20), (⟨"LineclockModel", "isAsked", "(I)Z"⟩, 20), (⟨"LineclockModel", "standsAt", "(I)I"⟩, 20), (⟨"LineclockModel", "listed", "(III)I"⟩, 20), (⟨"LineclockModel", "keeps", "()V"⟩, 20), (⟨"LineclockModel", "putsBack", "()V"⟩, 20), (⟨"LineclockModel", "count", "(C)I"⟩, 20)]
theorem lw_r3 : ∀ q ∈ lw_privs_3, lw_okq q := List.forall_mem_cons.mpr ⟨lw_p32, List.forall_mem_cons.mpr ⟨lw_p33, List.forall_mem_cons.mpr ⟨lw_p34, List.forall_mem_cons.mpr ⟨lw_p35, List.forall_mem_cons.mpr ⟨lw_p36, List.forall_mem_cons.mpr ⟨lw_p37, List.forall_mem_cons.mpr ⟨lw_p38, fun _ h => absurd h List.not_mem_nil⟩⟩⟩⟩⟩⟩⟩
def lw_privs : List (MethodName × Nat) := lw_privs_1 ++ (lw_privs_2 ++ (lw_privs_3))
def lw_tbl : List Cond := k2_sels lw_privs ++ tables_1
theorem lw_privs_ok : ∀ q ∈ lw_privs, lw_okq q := by
  show ∀ q ∈ lw_privs_1 ++ (lw_privs_2 ++ (lw_privs_3)), lw_okq q
  exact List.forall_mem_append.mpr ⟨lw_r1, List.forall_mem_append.mpr ⟨lw_r2, lw_r3⟩⟩
/-- the streams that the claim lets the run draw from -/
abbrev lw_cs : List Choice := [Jvm.Choice.named "NaN.bits"]
theorem lw_bits : nanBits ∈ lw_cs := by first | decide | exact List.mem_cons_self | simp [lw_cs, nanBits]
-- ===== end of PART A; then your names; then what follows =====
end
section
/-! ===== BEGIN words of one list among another's, by their places ===== -/
theorem goodIn_r {big : List Cond} (ws : List Cond) (ps : List Nat) (hp : ws = ps.filterMap (fun i => big[i]?)) (h : ws.all goodWord = true) : GoodIn big ws := by
  intro w hw
  have h1 := List.all_eq_true.mp h w hw
  rw [hp] at hw
  obtain ⟨i, -, hi⟩ := List.mem_filterMap.mp hw
  have hm : w ∈ big := by first | exact List.mem_of_getElem? hi | exact List.getElem?_mem hi
  exact ⟨hm, good_of_word h1⟩
theorem goodIn_app {big a b : List Cond} (ha : GoodIn big a) (hb : GoodIn big b) : GoodIn big (a ++ b) := fun w h => (List.mem_append.mp h).elim (ha w) (hb w)
theorem goodIn_ca {big a b : List Cond} {c : Cond} (ha : GoodIn big (c :: a)) (hb : GoodIn big b) : GoodIn big (c :: (a ++ b)) := fun w h => (List.mem_cons.mp h).elim (fun e => ha w (List.mem_cons.mpr (Or.inl e))) (fun h => (List.mem_append.mp h).elim (fun h => ha w (List.mem_cons.mpr (Or.inr h))) (hb w))
theorem goodIn_sub {big ws : List Cond} (hm : ∀ w ∈ ws, w ∈ big) (h : ws.all goodWord = true) : GoodIn big ws := fun w hw => ⟨hm w hw, good_of_word (List.all_eq_true.mp h w hw)⟩
/-! ===== END ===== -/

/-! ===== BEGIN exceptions that leave a method, and their catching by the caller (launches without stack traces) ===== -/
section VXA
/-! The laws vx_back, vx_callV, vx_callS, vx_callSW, vx_throw0, vx_throwS follow proofs of the library, with one case more: JvmDerived/Free/Laws.lean (Back.of_free), Shelf42/LK1.lean (callV, callS), Shelf/KitTraced.lean (throwNew0V, throwNewS). -/
/-- where a method has thrown q: the class by its name, the cell, what was written, the world -/
def vx_T (XC : String → State → State → Prop) (st : State) (q : Addr) (t : State) (mc ms : Nat) (free : Addr → Prop) : Prop :=
  ∃ (E : String) (ce : Cell) (L : List Loc), XC E st t ∧ t.heap[q]? = some ce ∧ ce.vm = .none ∧ st.vm.findClass E = some ce.cls ∧ st.WarmedH t.vm ∧ st.sameButNew ({ t with vm := st.vm } : State) L mc ms ∧ ∀ z ∈ L, free z.base
def vx_Q (Qc : Array Value → State → Outcome → State → Prop) (XC : String → State → State → Prop) (mc ms : Nat) (free : Addr → Prop) : Array Value → State → Outcome → State → Prop := fun a st o t =>
  (Qc a st o t ∧ ∃ L, FrameEnd st o t L mc ms ∧ ∀ q ∈ L, free q.base) ∨ ∃ q, o = .threw q ∧ vx_T XC st q t mc ms free
/-- a callee that returns or throws -/
def vx_Met (l : Launch) (y : MethodName) (ws : List Cond) (rm : Room) (Pc : Array Value → State → Prop) (Qc : Array Value → State → Outcome → State → Prop) (XC : String → State → State → Prop) (mc ms : Nat) (free : Addr → Prop) : Prop :=
  MetFree l y (headSpec ws rm) Pc (fun _ _ _ _ _ => True) (vx_Q Qc XC mc ms free)
def vx_Post (XC : String → State → State → Prop) (mc ms : Nat) (free : Addr → Prop) : Pt → Array Value → Addr → Pt → Prop := fun A a q B =>
  ∃ (g : JFrame) (mk : MethodId) (t : State) (L : List Loc) (E : String) (ce : Cell), B.U.heap = t.heap ∧ B.U.vm = t.vm ∧ XC E (A.U.calling g mk a) t ∧ t.heap[q]? = some ce ∧ ce.vm = .none ∧ A.U.vm.findClass E = some ce.cls ∧ B.locs = A.locs ++ L ∧ (∀ z ∈ L, free z.base) ∧ B.cells = A.cells + mc ∧ B.slots = A.slots + ms
def vx_Back (l : Launch) (R : Room) (p : Program) (e : Env) (below : List Frame) (s : State) (sargs : Array Value) (y : MethodName) (len W9 : Nat)
    (Pre : Pt → Array Value → Prop) (Post : Pt → Array Value → Option Value → Pt → Prop) (PostX : Pt → Array Value → Addr → Pt → Prop) : Prop :=
  ∀ (m : MethodId) (meth : Method) (c : Code) (A : Pt) (g : JFrame) (ig : Instr) (mk : MethodId) (a : Array Value),
    Stand p l e R s m sargs below meth c A.U A.locs A.cells A.slots → g.method = m → g.locals.size = c.maxLocals → decode c.code g.pc = .ok (ig, len) →
    2 * g.monitorRoom + (g.stack.map fun v => v.category).sum ≤ W9 → A.U.methodNamed? y = some mk → Pre A a →
    (∃ (v : Option Value) (B : Pt), Stand p l e R s m sargs below meth c B.U B.locs B.cells B.slots ∧ Post A a v B ∧
      Steps p.tables e below (doInvoke e (A.U.setTop g) [] mk a).1 (B.U.setTop { g with pc := g.pc + len, stack := v.toList ++ g.stack })) ∨
    (∃ (q : Addr) (B : Pt), Stand p l e R s m sargs below meth c B.U B.locs B.cells B.slots ∧ PostX A a q B ∧
      Steps p.tables e below (doInvoke e (A.U.setTop g) [] mk a).1 ((B.U.setTop g).pushFrame (.throwing q)))
section Payer
variable {l : Launch} {R : Room} {p : Program} {e : Env} {below : List Frame} {s : State} {sargs : Array Value} {y : MethodName} {len W9 : Nat}
theorem vx_back {ws : List Cond} {rm : Room} {Pc : Array Value → State → Prop} {Qc : Array Value → State → Outcome → State → Prop} {XC : String → State → State → Prop} {mc ms : Nat} {free : Addr → Prop} {bytes : ByteArray} {maxL : Nat} {ret : Option FieldType}
    (hM : vx_Met l y ws rm Pc Qc XC mc ms free) (hblind : FrameBlind Pc) (hrc : rm.cells = mc) (hrs : rm.slots = ms)
    (hframes : rm.frames + 1 ≤ R.frames) (hlocals : W9 + (maxL + 11) + rm.locals ≤ R.locals)
    (hws : ∀ w ∈ ws, ∀ a' U, s.WarmedH U.vm → w.before a' U = true) (hcode : Cond.code y bytes maxL ret ∈ ws) (hinit : ∀ a' U, s.WarmedH U.vm → (Cond.initialized y.cls).before a' U = true) :
    vx_Back l R p e below s sargs y len W9 (PreOf R mc ms Pc) (PostOf Qc mc ms free) (vx_Post XC mc ms free) := by
  intro m meth c A g ig mk a X hg hsize hdg hW hn hp
  have h1 : (headSpec ws rm).pre.before a A.U = true := atoms_intro fun w hw => hws w hw _ _ X.warmed
  have h2 : (Cond.code y bytes maxL ret).before a A.U = true := hws _ hcode _ _ X.warmed
  have h3 : (Cond.initialized y.cls).before a A.U = true := hinit _ _ X.warmed
  have h4 : A.cells + (headSpec ws rm).room.cells ≤ R.cells := by rw [show (headSpec ws rm).room.cells = mc from hrc]; exact hp.1
  have h5 : A.slots + (headSpec ws rm).room.slots ≤ R.slots := by rw [show (headSpec ws rm).room.slots = ms from hrs]; exact hp.2.1
  have hPc : Pc a (A.U.calling g mk a) := hblind _ _ _ _ hp.2.2
  obtain ⟨U, Ls, c0, s0⟩ := A
  dsimp only [Pt.U, Pt.locs, Pt.cells, Pt.slots] at h1 h2 h3 h4 h5 X hn hPc ⊢
  obtain ⟨methY, cY, hmY, hcY, -, hlY, -, -, -, -⟩ := Cond.code_spec hn h2
  obtain ⟨kY, hkY, -⟩ := className_of_methodNamed hn
  have hinitY : kY.init = .initialized := Cond.initialized_spec (findClass_of_methodNamed hn) hkY h3
  have h : At U g.method c below := by rw [hg]; exact X.here
  have hlocals9 : W9 + (maxL + 11) + (headSpec ws rm).room.locals ≤ R.locals := hlocals
  have happ : (headSpec ws rm).appliesLoose y e.platform (U.calling g mk a) = true :=
    Spec.appliesLoose_calling (g := g) h hdg hn hkY hinitY
      (X.room_calling (g := g) (R' := (headSpec ws rm).room) hsize hmY hcY hframes (by rw [hlY]; omega) h4 h5) h1
  obtain ⟨mid, hmid⟩ := h.above
  have hfr : (U.setTop g).frames = (.java g :: mid) ++ below := by rw [State.frames_setTop' g h.top, hmid]; rfl
  obtain ⟨o, s₂, hsteps, -, hend, hq⟩ := Steps.callFree hM p X.admits X.cas X.clock (acts := []) hfr happ hPc trivial
  have hq' : vx_Q Qc XC mc ms free a (U.calling g mk a) o s₂ := hq
  rw [State.frames_setTop' g h.top] at hend
  obtain ⟨g₀, hg0⟩ := Option.isSome_iff_exists.mp h.top
  obtain ⟨r, hr⟩ := State.topJava?_eq_some.mp hg0
  have hr' : (({ U with heap := s₂.heap, slotsUsed := s₂.slotsUsed } : State).setVm s₂.vm).frames = .java g₀ :: r := hr
  rcases hq' with ⟨hqc, L, hfe, hL⟩ | ⟨q, rfl, E, ce, L, hx, hce, hcv, hcl, hW₂, hsm, hL⟩
  · obtain ⟨⟨v, rfl⟩, hW₂, e2, q2, q3, q4, q5, q6⟩ := id hfe
    have e3 : s₂ = ({ (U.calling g mk a).setFrames s₂.frames with heap := s₂.heap, slotsUsed := s₂.slotsUsed } : State).setVm s₂.vm := by
      have : s₂ = ({ s₂ with vm := (U.calling g mk a).vm } : State).setVm s₂.vm := rfl
      rw [e2] at this
      exact this
    obtain ⟨c₂, i₂, len₂, hc₂, hd₂, hf₂⟩ := hend
    have hW' : U.WarmedH s₂.vm := hW₂
    have hcc : c₂ = c := by
      have h1 : s₂.code? g.method = U.code? g.method := by
        rw [State.code?_eq, State.code?_eq, hW'.alike.method?]
      exact Option.some.inj (hc₂.symm.trans (h1.trans h.code))
    subst hcc
    have hlen : len₂ = len := by rw [hdg] at hd₂; cases hd₂; rfl
    subst hlen
    have hs₂ : s₂ = (({ U with heap := s₂.heap, slotsUsed := s₂.slotsUsed } : State).setVm s₂.vm).setTop { g with pc := g.pc + len₂, stack := v.toList ++ g.stack } := by
      refine e3.trans ?_
      rw [hf₂, State.calling_eq h.top, State.setFrames_setFrames, State.setTop_of_frames _ hr', hr]
      rfl
    have hsame : U.sameButNew ({ U with heap := s₂.heap, slotsUsed := s₂.slotsUsed } : State) L mc ms := by
      refine ⟨?_, q2, q3, q4, q5, q6⟩
      obtain ⟨t, ht, -⟩ := State.frames_cons hr
      show ({ U with heap := s₂.heap, slotsUsed := s₂.slotsUsed } : State) = { U.setFrames U.frames with heap := s₂.heap, slotsUsed := s₂.slotsUsed }
      rw [State.setFrames_self ht]
    subst hg
    refine Or.inl ⟨v, ⟨(({ U with heap := s₂.heap, slotsUsed := s₂.slotsUsed } : State).setVm s₂.vm), Ls ++ L, c0 + mc, s0 + ms⟩,
      ⟨X.admits, X.cas, X.clock, X.frames, X.room, X.hears, X.method, X.code, (X.here.setHeapUsed s₂.heap s₂.slotsUsed).setVm hW'.alike, X.tail, State.WarmedH.trans X.warmed hW', X.limits, X.bytes, X.same.trans (hsame.setVm s.vm)⟩,
      ⟨g, mk, s₂, L, rfl, rfl, hqc, rfl, hL, rfl, rfl⟩, ?_⟩
    show Steps p.tables e below _ ((({ U with heap := s₂.heap, slotsUsed := s₂.slotsUsed } : State).setVm s₂.vm).setTop { g with pc := g.pc + len₂, stack := v.toList ++ g.stack })
    rw [← hs₂]
    exact hsteps
  · obtain ⟨e2, q2, q3, q4, q5, q6⟩ := id hsm
    have e3 : s₂ = ({ (U.calling g mk a).setFrames s₂.frames with heap := s₂.heap, slotsUsed := s₂.slotsUsed } : State).setVm s₂.vm := by
      have : s₂ = ({ s₂ with vm := (U.calling g mk a).vm } : State).setVm s₂.vm := rfl
      rw [e2] at this
      exact this
    have hf₂ : s₂.frames = .throwing q :: .java g :: U.frames.tail := hend
    have hW' : U.WarmedH s₂.vm := hW₂
    have hs₂ : s₂ = ((({ U with heap := s₂.heap, slotsUsed := s₂.slotsUsed } : State).setVm s₂.vm).setTop g).pushFrame (.throwing q) := by
      refine e3.trans ?_
      rw [hf₂, State.calling_eq h.top, State.setFrames_setFrames, State.pushFrame, State.frames_setTop _ hr', State.setTop_of_frames _ hr', State.setFrames_setFrames, hr]
      rfl
    have hsame : U.sameButNew ({ U with heap := s₂.heap, slotsUsed := s₂.slotsUsed } : State) L mc ms := by
      refine ⟨?_, q2, q3, q4, q5, q6⟩
      obtain ⟨t, ht, -⟩ := State.frames_cons hr
      show ({ U with heap := s₂.heap, slotsUsed := s₂.slotsUsed } : State) = { U.setFrames U.frames with heap := s₂.heap, slotsUsed := s₂.slotsUsed }
      rw [State.setFrames_self ht]
    subst hg
    refine Or.inr ⟨q, ⟨(({ U with heap := s₂.heap, slotsUsed := s₂.slotsUsed } : State).setVm s₂.vm), Ls ++ L, c0 + mc, s0 + ms⟩,
      ⟨X.admits, X.cas, X.clock, X.frames, X.room, X.hears, X.method, X.code, (X.here.setHeapUsed s₂.heap s₂.slotsUsed).setVm hW'.alike, X.tail, State.WarmedH.trans X.warmed hW', X.limits, X.bytes, X.same.trans (hsame.setVm s.vm)⟩,
      ⟨g, mk, s₂, L, E, ce, rfl, rfl, hx, hce, hcv, hcl, rfl, hL, rfl, rfl⟩, ?_⟩
    show Steps p.tables e below _ (((({ U with heap := s₂.heap, slotsUsed := s₂.slotsUsed } : State).setVm s₂.vm).setTop g).pushFrame (.throwing q))
    rw [← hs₂]
    exact hsteps
end Payer
section Calls
variable {p : Program} {l : Launch} {e : Env} {R : Room} {s : State} {m : MethodId} {args : Array Value} {below : List Frame} {meth : Method} {c : Code} {T : State} {locs : List Loc} {cells slots : Nat}
theorem vx_callV (X : Stand p l e R s m args below meth c T locs cells slots) (hexec : p.tables.exec = Jvm.exec) {own C : String} {index : Nat} {y : MethodName} {bytes : ByteArray} {maxL : Nat} {ret : Option FieldType}
    (hown : s.vm.findClass own = some m.cls) (hlink : (Cond.methodLink own index y).before args s = true) (hinst : (Cond.instanceMethod y).before args s = true) (hsel : (Cond.selects C y y).before args s = true)
    (hcode : (Cond.code y bytes maxL ret).before args s = true) (hy : y.cls ≠ "java/lang/invoke/MethodHandle" ∧ y.cls ≠ "java/lang/invoke/VarHandle")
    {W9 : Nat} {Pre : Pt → Array Value → Prop} {Post : Pt → Array Value → Option Value → Pt → Prop} {PostX : Pt → Array Value → Addr → Pt → Prop} (hK : vx_Back l R p e below s args y 3 W9 Pre Post PostX)
    {b : Addr} {cellB : Cell} (hcell : T.heap[b]? = some cellB) (hobj : cellB.vm.isStatics = false) (hcls : s.vm.findClass C = some cellB.cls)
    {g : JFrame} (hg : g.method = m) (hsize : g.locals.size = c.maxLocals) {argsL rest : List Value} (hlen : ∀ sig, parseMethodDescriptor y.desc = some sig → argsL.length = sig.parameters.length)
    (hstack : g.stack = argsL.reverse ++ .ref b :: rest) (hW : 2 * g.monitorRoom + (rest.map fun v => v.category).sum ≤ W9) (hdg : decode c.code g.pc = .ok (.invokevirtual index, 3))
    (hpre : ∀ vm₁, s.WarmedH vm₁ → Pre ⟨T.setVm vm₁, locs, cells, slots⟩ (Value.ref b :: argsL).toArray) :
    (∃ (v : Option Value) (vm₁ : Vm) (B : Pt), s.WarmedH vm₁ ∧ Stand p l e R s m args below meth c B.U B.locs B.cells B.slots ∧ Post ⟨T.setVm vm₁, locs, cells, slots⟩ (Value.ref b :: argsL).toArray v B ∧
      ∀ target, Steps p.tables e below (B.U.setTop { g with pc := g.pc + 3, stack := v.toList ++ rest }) target → Steps p.tables e below (T.setTop g) target) ∨
    (∃ (q : Addr) (vm₁ : Vm) (B : Pt), s.WarmedH vm₁ ∧ Stand p l e R s m args below meth c B.U B.locs B.cells B.slots ∧ PostX ⟨T.setVm vm₁, locs, cells, slots⟩ (Value.ref b :: argsL).toArray q B ∧
      Steps p.tables e below (T.setTop g) ((B.U.setTop { g with stack := rest }).pushFrame (.throwing q))) := by
  obtain ⟨mk, methM, hnamed, hmethM, hstM, habM⟩ := Cond.instanceMethod_spec hinst
  obtain ⟨methM', cM, hmethM', -, -, -, -, -, -, hsigM⟩ := Cond.code_spec hnamed hcode
  cases hmethM.symm.trans hmethM'
  obtain ⟨c2, r2, m2, q1, q2, q3, q4, kP, hkP, hkPi⟩ := Cond.selects_spec hsel
  cases hcls.symm.trans q1
  cases (State.methodFound?_of_named hnamed hy).symm.trans q2
  cases hnamed.symm.trans q3
  have hselP : selectMethod e.platform s.vm cellB.cls mk = .method mk := by rw [Launch.admits_selectMethod X.admits]; exact q4
  obtain ⟨vm₁, X₁, hstep₁⟩ := X.invokevirtual hexec hown hlink hnamed hmethM hstM hkP hkPi hy (a := b) (cell := cellB) hcell
    (fun z h => by rw [h] at hobj; cases hobj) hselP hmethM habM hkP hkPi (g := g) hg (argsL := argsL) (rest := rest) (hlen _ hsigM) hstack hdg
  rcases hK m meth c ⟨T.setVm vm₁, locs, cells, slots⟩ { g with stack := rest } (.invokevirtual index) mk (Value.ref b :: argsL).toArray X₁ hg hsize hdg hW (X₁.named hnamed) (hpre vm₁ X₁.warmed) with ⟨v, B, X', hpost, hsteps⟩ | ⟨q, B, X', hpost, hsteps⟩
  · exact Or.inl ⟨v, vm₁, B, X₁.warmed, X', hpost, fun target h => hstep₁ _ fun acts => by rw [doInvoke_state]; exact hsteps.trans h⟩
  · exact Or.inr ⟨q, vm₁, B, X₁.warmed, X', hpost, hstep₁ _ fun acts => by rw [doInvoke_state]; exact hsteps⟩
theorem vx_callS (X : Stand p l e R s m args below meth c T locs cells slots) (hexec : p.tables.exec = Jvm.exec) {own : String} {index : Nat} {y : MethodName} {bytes : ByteArray} {maxL : Nat} {ret : Option FieldType}
    (hown : s.vm.findClass own = some m.cls) (hlink : (Cond.methodLink own index y).before args s = true) (hstat : (Cond.static y).before args s = true) (hinit : (Cond.initialized y.cls).before args s = true)
    (hcode : (Cond.code y bytes maxL ret).before args s = true) (hy : y.cls ≠ "java/lang/invoke/MethodHandle" ∧ y.cls ≠ "java/lang/invoke/VarHandle")
    {W9 : Nat} {Pre : Pt → Array Value → Prop} {Post : Pt → Array Value → Option Value → Pt → Prop} {PostX : Pt → Array Value → Addr → Pt → Prop} (hK : vx_Back l R p e below s args y 3 W9 Pre Post PostX)
    {g : JFrame} (hg : g.method = m) (hsize : g.locals.size = c.maxLocals) {argsL rest : List Value} (hlen : ∀ sig, parseMethodDescriptor y.desc = some sig → argsL.length = sig.parameters.length)
    (hstack : g.stack = argsL.reverse ++ rest) (hW : 2 * g.monitorRoom + (rest.map fun v => v.category).sum ≤ W9) (hdg : decode c.code g.pc = .ok (.invokestatic index, 3))
    (hpre : ∀ vm₁, s.WarmedH vm₁ → Pre ⟨T.setVm vm₁, locs, cells, slots⟩ argsL.toArray) :
    (∃ (v : Option Value) (vm₁ : Vm) (B : Pt), s.WarmedH vm₁ ∧ Stand p l e R s m args below meth c B.U B.locs B.cells B.slots ∧ Post ⟨T.setVm vm₁, locs, cells, slots⟩ argsL.toArray v B ∧
      ∀ target, Steps p.tables e below (B.U.setTop { g with pc := g.pc + 3, stack := v.toList ++ rest }) target → Steps p.tables e below (T.setTop g) target) ∨
    (∃ (q : Addr) (vm₁ : Vm) (B : Pt), s.WarmedH vm₁ ∧ Stand p l e R s m args below meth c B.U B.locs B.cells B.slots ∧ PostX ⟨T.setVm vm₁, locs, cells, slots⟩ argsL.toArray q B ∧
      Steps p.tables e below (T.setTop g) ((B.U.setTop { g with stack := rest }).pushFrame (.throwing q))) := by
  obtain ⟨mk, hnamed⟩ := Cond.code_named hcode
  obtain ⟨methM, cM, hmethM, -, -, -, -, -, -, hsigM⟩ := Cond.code_spec hnamed hcode
  have hstatic : methM.isStatic = true := Cond.static_spec hnamed hmethM hstat
  obtain ⟨kP, hkP, -⟩ := className_of_methodNamed hnamed
  have hinitP : kP.init = .initialized := Cond.initialized_spec (findClass_of_methodNamed hnamed) hkP hinit
  obtain ⟨vm₁, X₁, hstep₁⟩ := X.invokestatic hexec hown hlink hnamed hmethM hstatic hkP hinitP hy (g := g) hg (argsL := argsL) (rest := rest) (hlen _ hsigM) hstack hdg
  rcases hK m meth c ⟨T.setVm vm₁, locs, cells, slots⟩ { g with stack := rest } (.invokestatic index) mk argsL.toArray X₁ hg hsize hdg hW (X₁.named hnamed) (hpre vm₁ X₁.warmed) with ⟨v, B, X', hpost, hsteps⟩ | ⟨q, B, X', hpost, hsteps⟩
  · exact Or.inl ⟨v, vm₁, B, X₁.warmed, X', hpost, fun target h => hstep₁ _ fun acts => by rw [doInvoke_state]; exact hsteps.trans h⟩
  · exact Or.inr ⟨q, vm₁, B, X₁.warmed, X', hpost, hstep₁ _ fun acts => by rw [doInvoke_state]; exact hsteps⟩
end Calls
theorem vx_cls {s : State} {T : State} {vm₁ : Vm} {E : String} {k : ClassId} (hW : s.WarmedH vm₁) (h : (T.setVm vm₁).vm.findClass E = some k) : s.vm.findClass E = some k := by
  have h1 : vm₁.findClass E = some k := h
  rw [hW.alike.findClass] at h1
  exact h1
/-- the method's frame g, with q thrown over it -/
def vx_W (p : Program) (l : Launch) (e : Env) (R : Room) (s : State) (m : MethodId) (args : Array Value) (below : List Frame) (meth : Method) (c : Code) (H : Heap) (locs : List Loc) (cells slots : Nat) (Q : State → Prop) (g : JFrame) (q : Addr) : Prop :=
  ∀ T : State, T.heap = H → Stand p l e R s m args below meth c T locs cells slots → ∃ t, Steps p.tables e below ((T.setTop g).pushFrame (.throwing q)) t ∧ Q t
def vx_Run (p : Program) (l : Launch) (e : Env) (R : Room) (s : State) (m : MethodId) (args : Array Value) (below : List Frame) (meth : Method) (c : Code) (H : Heap) (locs : List Loc) (cells slots mc ms : Nat) (g : JFrame) (rest : List Value) (Qa : State → Outcome → State → Prop) (XC : String → State → State → Prop) (free : Addr → Prop) : Prop :=
  ∀ T : State, T.heap = H → Stand p l e R s m args below meth c T locs cells slots →
    (∃ (v : Option Value) (st₀ t T' : State) (L : List Loc), st₀.heap = H ∧ Stand p l e R s m args below meth c T' (locs ++ L) (cells + mc) (slots + ms) ∧ (∀ q ∈ L, free q.base) ∧ T'.heap = t.heap ∧ T'.vm = t.vm ∧ Qa st₀ (.returned v) t ∧
      Goes p e below T g T' { g with pc := g.pc + 3, stack := v.toList ++ rest }) ∨
    (∃ (q : Addr) (st₀ t T' : State) (L : List Loc) (E : String) (ce : Cell), st₀.heap = H ∧ Stand p l e R s m args below meth c T' (locs ++ L) (cells + mc) (slots + ms) ∧ (∀ z ∈ L, free z.base) ∧ T'.heap = t.heap ∧ T'.vm = t.vm ∧ XC E st₀ t ∧ t.heap[q]? = some ce ∧ ce.vm = .none ∧ s.vm.findClass E = some ce.cls ∧
      Steps p.tables e below (T.setTop g) ((T'.setTop { g with stack := rest }).pushFrame (.throwing q)))
def vx_X {S : Type} (px : S → Prop) (B : String → S → State → Prop) (A : Nat → Prop) : String → State → State → Prop := fun E st t => ∃ u : S, px u ∧ B E u t ∧ va_F A st t
section Runs
variable {p : Program} {l : Launch} {e : Env} {R : Room} {s : State} {m : MethodId} {args : Array Value} {below : List Frame} {meth : Method} {c : Code} {H : Heap} {locs : List Loc} {cells slots : Nat}
variable {y : MethodName} {bytes cc : ByteArray} {maxL nL mc ms n index : Nat} {ret : Option FieldType} {ws : List Cond} {rm : Room} {Pc : Array Value → State → Prop} {Qc : Array Value → State → Outcome → State → Prop} {XC : String → State → State → Prop} {free : Addr → Prop} {Ts : List Cond} {own C : String} {b : Addr} {As rest : List Value} {g : JFrame}
theorem vx_callBack (cb : CallB R s args own index y bytes maxL ret ws rm mc ms n) (hM : vx_Met l y ws rm Pc Qc XC mc ms free) (hbl : FrameBlind Pc) : vx_Back l R p e below s args y 3 8 (PreOf R mc ms Pc) (PostOf Qc mc ms free) (vx_Post XC mc ms free) := by
  obtain ⟨hrc, hrs, hfr, hlo, hws, hcw, -, hini, -⟩ := cb
  exact vx_back (bytes := bytes) (maxL := maxL) (ret := ret) hM hbl hrc hrs hfr hlo hws hcw (fun a' U hW => word_at hW (Or.inl (by first | rfl | simp [Cond.onTables, Cond.keeps, Cond.steady])) hini)
theorem vx_runV (S : CallFix p m c cc nL s args Ts own) (hM : vx_Met l y ws rm Pc Qc XC mc ms free) (cw : CallW R s args own C index y bytes maxL ret ws rm mc ms n) (hp : PreV s H C b Pc As)
    (hg : g.method = m) (hn : As.length = n) (hsize : g.locals.size = nL) (hstack : g.stack = As.reverse ++ .ref b :: rest) (hW : 2 * g.monitorRoom + (rest.map fun v => v.category).sum ≤ 8) (hdg : decode cc g.pc = .ok (.invokevirtual index, 3)) (hf : cells + mc ≤ R.cells ∧ slots + ms ≤ R.slots) :
    vx_Run p l e R s m args below meth c H locs cells slots mc ms g rest (Qc (Value.ref b :: As).toArray) XC free := by
  have hK : vx_Back l R p e below s args y 3 8 (PreOf R mc ms Pc) (PostOf Qc mc ms free) (vx_Post XC mc ms free) := vx_callBack cw.1 hM hp.1
  obtain ⟨⟨-, -, -, -, -, -, hcode, -, hy, hlen, hl⟩, hin, hse⟩ := cw
  obtain ⟨hx, hb, hml, ho, -⟩ := S
  obtain ⟨-, ⟨cellB, hcB, hoB, hclB⟩, hPc⟩ := hp
  intro T hT X
  rcases vx_callV X hx (C := C) (bytes := bytes) (maxL := maxL) (ret := ret) ho hl hin hse hcode hy hK (by rw [hT]; exact hcB) hoB hclB hg (hsize.trans hml.symm) (argsL := As) (rest := rest) (fun sig h => hn.trans (hlen sig h)) hstack hW (by rw [hb]; exact hdg)
    (fun vm₁ hW₁ => ⟨hf.1, hf.2, hPc (T.setVm vm₁) hT hW₁⟩) with ⟨v, vm₁, ⟨U', l2, c2, s2⟩, hW₁, X', ⟨g', mk, t, L, e1, e2, hq, h1, hL, h2, h3⟩, st⟩ | ⟨q, vm₁, ⟨U', l2, c2, s2⟩, hW₁, X', ⟨g', mk, t, L, E, ce, e1, e2, hq, hce, hcv, hcl, h1, hL, h2, h3⟩, st⟩
  · dsimp only [Pt.U, Pt.locs, Pt.cells, Pt.slots] at X' e1 e2 h1 h2 h3 st
    subst h1; subst h2; subst h3
    exact Or.inl ⟨v, (T.setVm vm₁).calling g' mk (Value.ref b :: As).toArray, t, U', L, hT, X', hL, e1, e2, hq, st⟩
  · dsimp only [Pt.U, Pt.locs, Pt.cells, Pt.slots] at X' e1 e2 h1 h2 h3 st hcl
    subst h1; subst h2; subst h3
    exact Or.inr ⟨q, (T.setVm vm₁).calling g' mk (Value.ref b :: As).toArray, t, U', L, E, ce, hT, X', hL, e1, e2, hq, hce, hcv, vx_cls hW₁ hcl, st⟩
theorem vx_runS (S : CallFix p m c cc nL s args Ts own) (hM : vx_Met l y ws rm Pc Qc XC mc ms free) (cw : CallB R s args own index y bytes maxL ret ws rm mc ms n ∧ (Cond.static y).before args s = true) (hp : PreS s H Pc As)
    (hg : g.method = m) (hn : As.length = n) (hsize : g.locals.size = nL) (hstack : g.stack = As.reverse ++ rest) (hW : 2 * g.monitorRoom + (rest.map fun v => v.category).sum ≤ 8) (hdg : decode cc g.pc = .ok (.invokestatic index, 3)) (hf : cells + mc ≤ R.cells ∧ slots + ms ≤ R.slots) :
    vx_Run p l e R s m args below meth c H locs cells slots mc ms g rest (Qc As.toArray) XC free := by
  have hK : vx_Back l R p e below s args y 3 8 (PreOf R mc ms Pc) (PostOf Qc mc ms free) (vx_Post XC mc ms free) := vx_callBack cw.1 hM hp.1
  obtain ⟨⟨-, -, -, -, -, -, hcode, hini, hy, hlen, hl⟩, hstt⟩ := cw
  obtain ⟨hx, hb, hml, ho, -⟩ := S
  intro T hT X
  rcases vx_callS X hx (bytes := bytes) (maxL := maxL) (ret := ret) ho hl hstt hini hcode hy hK hg (hsize.trans hml.symm) (argsL := As) (rest := rest) (fun sig h => hn.trans (hlen sig h)) hstack hW (by rw [hb]; exact hdg)
    (fun vm₁ hW₁ => ⟨hf.1, hf.2, hp.2 (T.setVm vm₁) hT hW₁⟩) with ⟨v, vm₁, ⟨U', l2, c2, s2⟩, hW₁, X', ⟨g', mk, t, L, e1, e2, hq, h1, hL, h2, h3⟩, st⟩ | ⟨q, vm₁, ⟨U', l2, c2, s2⟩, hW₁, X', ⟨g', mk, t, L, E, ce, e1, e2, hq, hce, hcv, hcl, h1, hL, h2, h3⟩, st⟩
  · dsimp only [Pt.U, Pt.locs, Pt.cells, Pt.slots] at X' e1 e2 h1 h2 h3 st
    subst h1; subst h2; subst h3
    exact Or.inl ⟨v, (T.setVm vm₁).calling g' mk As.toArray, t, U', L, hT, X', hL, e1, e2, hq, st⟩
  · dsimp only [Pt.U, Pt.locs, Pt.cells, Pt.slots] at X' e1 e2 h1 h2 h3 st hcl
    subst h1; subst h2; subst h3
    exact Or.inr ⟨q, (T.setVm vm₁).calling g' mk As.toArray, t, U', L, E, ce, hT, X', hL, e1, e2, hq, hce, hcv, vx_cls hW₁ hcl, st⟩
end Runs
section Rows
variable {p : Program} {l : Launch} {e : Env} {R : Room} {s : State} {m : MethodId} {args : Array Value} {below : List Frame} {meth : Method} {c : Code} {H : Heap} {locs : List Loc} {cells slots : Nat} {Q : State → Prop}
variable {mc ms : Nat} {free : Addr → Prop} {A0 A1 : Nat → Prop} {H0 : Heap} {a : Array Value} {pc : Nat} {ls : Array Slot} {st0 rest : List Value}
theorem vx_keep {st₀ t T' : State} {L : List Loc} (h0 : st₀.heap = H) (e1 : T'.heap = t.heap) (hS : va_S A0 H0 H locs) (hA : ∀ q, q < H.size → A1 q → A0 q) (hf : ∀ q, free q → A0 q) (hL : ∀ q ∈ L, free q.base) (hF : va_F A1 st₀ t) :
    H.size ≤ T'.heap.size ∧ (∀ q : Nat, q < H.size → ¬ A1 q → T'.heap[q]? = H[q]?) ∧ va_S A0 H0 T'.heap (locs ++ L) := by
  obtain ⟨hz, hk⟩ := hF
  rw [h0] at hz hk
  exact ⟨by rw [e1]; exact hz, fun q h1 h2 => by rw [e1]; exact hk q h1 h2,
    ⟨Nat.le_trans hS.1 (by rw [e1]; exact hz), fun q h1 h2 => by rw [e1, hk q (Nat.lt_of_lt_of_le h1 hS.1) (fun z => h2 (hA q (Nat.lt_of_lt_of_le h1 hS.1) z))]; exact hS.2.1 q h1 h2, fun q hq => by
      rcases List.mem_append.mp hq with h | h
      · exact hS.2.2 q h
      · exact hf _ (hL q h)⟩⟩
theorem vx_calli {S SX : Type} {post : Int32 → S → Prop} {px : SX → Prop} {B : S → State → Prop} {BX : String → SX → State → Prop} {AX : Nat → Prop} (hr : vx_Run p l e R s m args below meth c H locs cells slots mc ms (F0 m pc ls st0) rest (va_Qi post B A1 a) (vx_X px BX AX) free) (hS : va_S A0 H0 H locs) (hA : ∀ q, q < H.size → A1 q → A0 q) (hf : ∀ q, free q → A0 q) (hAX : ∀ q, q < H.size → AX q → A0 q)
    (kx : ∀ (E : String) (ce : Cell) (q9 : Addr) (u : SX) (t : State) (H1 : Heap) (locs1 : List Loc), t.heap = H1 → s.vm.Alike t.vm → px u → BX E u t → H.size ≤ H1.size → (∀ q : Nat, q < H.size → ¬ AX q → H1[q]? = H[q]?) → va_S A0 H0 H1 locs1 → H1[q9]? = some ce → ce.vm = .none → s.vm.findClass E = some ce.cls → vx_W p l e R s m args below meth c H1 locs1 (cells + mc) (slots + ms) Q (F0 m pc ls rest) q9)
    (kk : ∀ (r : Int32) (u : S) (t : State) (H1 : Heap) (locs1 : List Loc), t.heap = H1 → s.vm.Alike t.vm → post r u → B u t → H.size ≤ H1.size → (∀ q : Nat, q < H.size → ¬ A1 q → H1[q]? = H[q]?) → va_S A0 H0 H1 locs1 → W p l e R s m args below meth c H1 locs1 (cells + mc) (slots + ms) Q (F0 m (pc + 3) ls (.int r :: rest))) : W p l e R s m args below meth c H locs cells slots Q (F0 m pc ls st0) := by
  intro T hT X
  rcases hr T hT X with ⟨v, st₀, t, T', L, h0, X', hL, e1, e2, ⟨⟨r, u, hv, hp, hb⟩, hF⟩, st⟩ | ⟨q, st₀, t, T', L, E, ce, h0, X', hL, e1, e2, ⟨u, hp, hb, hF⟩, hce, hcv, hcl, st⟩
  · cases hv
    obtain ⟨k1, k2, k3⟩ := vx_keep h0 e1 hS hA hf hL hF
    obtain ⟨t2, a1, b1⟩ := kk r u t T'.heap (locs ++ L) e1.symm (by rw [← e2]; exact X'.warmed.alike) hp hb k1 k2 k3 T' rfl X'
    exact ⟨t2, st t2 a1, b1⟩
  · obtain ⟨k1, k2, k3⟩ := vx_keep h0 e1 hS hAX hf hL hF
    obtain ⟨t2, a1, b1⟩ := kx E ce q u t T'.heap (locs ++ L) e1.symm (by rw [← e2]; exact X'.warmed.alike) hp hb k1 k2 k3 (by rw [e1]; exact hce) hcv hcl T' rfl X'
    exact ⟨t2, st.trans a1, b1⟩
theorem vx_calll {S SX : Type} {post : Int64 → S → Prop} {px : SX → Prop} {B : S → State → Prop} {BX : String → SX → State → Prop} {AX : Nat → Prop} (hr : vx_Run p l e R s m args below meth c H locs cells slots mc ms (F0 m pc ls st0) rest (va_Ql post B A1 a) (vx_X px BX AX) free) (hS : va_S A0 H0 H locs) (hA : ∀ q, q < H.size → A1 q → A0 q) (hf : ∀ q, free q → A0 q) (hAX : ∀ q, q < H.size → AX q → A0 q)
    (kx : ∀ (E : String) (ce : Cell) (q9 : Addr) (u : SX) (t : State) (H1 : Heap) (locs1 : List Loc), t.heap = H1 → s.vm.Alike t.vm → px u → BX E u t → H.size ≤ H1.size → (∀ q : Nat, q < H.size → ¬ AX q → H1[q]? = H[q]?) → va_S A0 H0 H1 locs1 → H1[q9]? = some ce → ce.vm = .none → s.vm.findClass E = some ce.cls → vx_W p l e R s m args below meth c H1 locs1 (cells + mc) (slots + ms) Q (F0 m pc ls rest) q9)
    (kk : ∀ (r : Int64) (u : S) (t : State) (H1 : Heap) (locs1 : List Loc), t.heap = H1 → s.vm.Alike t.vm → post r u → B u t → H.size ≤ H1.size → (∀ q : Nat, q < H.size → ¬ A1 q → H1[q]? = H[q]?) → va_S A0 H0 H1 locs1 → W p l e R s m args below meth c H1 locs1 (cells + mc) (slots + ms) Q (F0 m (pc + 3) ls (.long r :: rest))) : W p l e R s m args below meth c H locs cells slots Q (F0 m pc ls st0) := by
  intro T hT X
  rcases hr T hT X with ⟨v, st₀, t, T', L, h0, X', hL, e1, e2, ⟨⟨r, u, hv, hp, hb⟩, hF⟩, st⟩ | ⟨q, st₀, t, T', L, E, ce, h0, X', hL, e1, e2, ⟨u, hp, hb, hF⟩, hce, hcv, hcl, st⟩
  · cases hv
    obtain ⟨k1, k2, k3⟩ := vx_keep h0 e1 hS hA hf hL hF
    obtain ⟨t2, a1, b1⟩ := kk r u t T'.heap (locs ++ L) e1.symm (by rw [← e2]; exact X'.warmed.alike) hp hb k1 k2 k3 T' rfl X'
    exact ⟨t2, st t2 a1, b1⟩
  · obtain ⟨k1, k2, k3⟩ := vx_keep h0 e1 hS hAX hf hL hF
    obtain ⟨t2, a1, b1⟩ := kx E ce q u t T'.heap (locs ++ L) e1.symm (by rw [← e2]; exact X'.warmed.alike) hp hb k1 k2 k3 (by rw [e1]; exact hce) hcv hcl T' rfl X'
    exact ⟨t2, st.trans a1, b1⟩
theorem vx_callf {S SX : Type} {post : UInt32 → S → Prop} {px : SX → Prop} {B : S → State → Prop} {BX : String → SX → State → Prop} {AX : Nat → Prop} (hr : vx_Run p l e R s m args below meth c H locs cells slots mc ms (F0 m pc ls st0) rest (va_Qf post B A1 a) (vx_X px BX AX) free) (hS : va_S A0 H0 H locs) (hA : ∀ q, q < H.size → A1 q → A0 q) (hf : ∀ q, free q → A0 q) (hAX : ∀ q, q < H.size → AX q → A0 q)
    (kx : ∀ (E : String) (ce : Cell) (q9 : Addr) (u : SX) (t : State) (H1 : Heap) (locs1 : List Loc), t.heap = H1 → s.vm.Alike t.vm → px u → BX E u t → H.size ≤ H1.size → (∀ q : Nat, q < H.size → ¬ AX q → H1[q]? = H[q]?) → va_S A0 H0 H1 locs1 → H1[q9]? = some ce → ce.vm = .none → s.vm.findClass E = some ce.cls → vx_W p l e R s m args below meth c H1 locs1 (cells + mc) (slots + ms) Q (F0 m pc ls rest) q9)
    (kk : ∀ (r : UInt32) (u : S) (t : State) (H1 : Heap) (locs1 : List Loc), t.heap = H1 → s.vm.Alike t.vm → post r u → B u t → H.size ≤ H1.size → (∀ q : Nat, q < H.size → ¬ A1 q → H1[q]? = H[q]?) → va_S A0 H0 H1 locs1 → W p l e R s m args below meth c H1 locs1 (cells + mc) (slots + ms) Q (F0 m (pc + 3) ls (.float r :: rest))) : W p l e R s m args below meth c H locs cells slots Q (F0 m pc ls st0) := by
  intro T hT X
  rcases hr T hT X with ⟨v, st₀, t, T', L, h0, X', hL, e1, e2, ⟨⟨r, u, hv, hp, hb⟩, hF⟩, st⟩ | ⟨q, st₀, t, T', L, E, ce, h0, X', hL, e1, e2, ⟨u, hp, hb, hF⟩, hce, hcv, hcl, st⟩
  · cases hv
    obtain ⟨k1, k2, k3⟩ := vx_keep h0 e1 hS hA hf hL hF
    obtain ⟨t2, a1, b1⟩ := kk r u t T'.heap (locs ++ L) e1.symm (by rw [← e2]; exact X'.warmed.alike) hp hb k1 k2 k3 T' rfl X'
    exact ⟨t2, st t2 a1, b1⟩
  · obtain ⟨k1, k2, k3⟩ := vx_keep h0 e1 hS hAX hf hL hF
    obtain ⟨t2, a1, b1⟩ := kx E ce q u t T'.heap (locs ++ L) e1.symm (by rw [← e2]; exact X'.warmed.alike) hp hb k1 k2 k3 (by rw [e1]; exact hce) hcv hcl T' rfl X'
    exact ⟨t2, st.trans a1, b1⟩
theorem vx_calld {S SX : Type} {post : UInt64 → S → Prop} {px : SX → Prop} {B : S → State → Prop} {BX : String → SX → State → Prop} {AX : Nat → Prop} (hr : vx_Run p l e R s m args below meth c H locs cells slots mc ms (F0 m pc ls st0) rest (va_Qd post B A1 a) (vx_X px BX AX) free) (hS : va_S A0 H0 H locs) (hA : ∀ q, q < H.size → A1 q → A0 q) (hf : ∀ q, free q → A0 q) (hAX : ∀ q, q < H.size → AX q → A0 q)
    (kx : ∀ (E : String) (ce : Cell) (q9 : Addr) (u : SX) (t : State) (H1 : Heap) (locs1 : List Loc), t.heap = H1 → s.vm.Alike t.vm → px u → BX E u t → H.size ≤ H1.size → (∀ q : Nat, q < H.size → ¬ AX q → H1[q]? = H[q]?) → va_S A0 H0 H1 locs1 → H1[q9]? = some ce → ce.vm = .none → s.vm.findClass E = some ce.cls → vx_W p l e R s m args below meth c H1 locs1 (cells + mc) (slots + ms) Q (F0 m pc ls rest) q9)
    (kk : ∀ (r : UInt64) (u : S) (t : State) (H1 : Heap) (locs1 : List Loc), t.heap = H1 → s.vm.Alike t.vm → post r u → B u t → H.size ≤ H1.size → (∀ q : Nat, q < H.size → ¬ A1 q → H1[q]? = H[q]?) → va_S A0 H0 H1 locs1 → W p l e R s m args below meth c H1 locs1 (cells + mc) (slots + ms) Q (F0 m (pc + 3) ls (.double r :: rest))) : W p l e R s m args below meth c H locs cells slots Q (F0 m pc ls st0) := by
  intro T hT X
  rcases hr T hT X with ⟨v, st₀, t, T', L, h0, X', hL, e1, e2, ⟨⟨r, u, hv, hp, hb⟩, hF⟩, st⟩ | ⟨q, st₀, t, T', L, E, ce, h0, X', hL, e1, e2, ⟨u, hp, hb, hF⟩, hce, hcv, hcl, st⟩
  · cases hv
    obtain ⟨k1, k2, k3⟩ := vx_keep h0 e1 hS hA hf hL hF
    obtain ⟨t2, a1, b1⟩ := kk r u t T'.heap (locs ++ L) e1.symm (by rw [← e2]; exact X'.warmed.alike) hp hb k1 k2 k3 T' rfl X'
    exact ⟨t2, st t2 a1, b1⟩
  · obtain ⟨k1, k2, k3⟩ := vx_keep h0 e1 hS hAX hf hL hF
    obtain ⟨t2, a1, b1⟩ := kx E ce q u t T'.heap (locs ++ L) e1.symm (by rw [← e2]; exact X'.warmed.alike) hp hb k1 k2 k3 (by rw [e1]; exact hce) hcv hcl T' rfl X'
    exact ⟨t2, st.trans a1, b1⟩
theorem vx_callv {S SX : Type} {post : S → Prop} {px : SX → Prop} {B : S → State → Prop} {BX : String → SX → State → Prop} {AX : Nat → Prop} (hr : vx_Run p l e R s m args below meth c H locs cells slots mc ms (F0 m pc ls st0) rest (va_Qv post B A1 a) (vx_X px BX AX) free) (hS : va_S A0 H0 H locs) (hA : ∀ q, q < H.size → A1 q → A0 q) (hf : ∀ q, free q → A0 q) (hAX : ∀ q, q < H.size → AX q → A0 q)
    (kx : ∀ (E : String) (ce : Cell) (q9 : Addr) (u : SX) (t : State) (H1 : Heap) (locs1 : List Loc), t.heap = H1 → s.vm.Alike t.vm → px u → BX E u t → H.size ≤ H1.size → (∀ q : Nat, q < H.size → ¬ AX q → H1[q]? = H[q]?) → va_S A0 H0 H1 locs1 → H1[q9]? = some ce → ce.vm = .none → s.vm.findClass E = some ce.cls → vx_W p l e R s m args below meth c H1 locs1 (cells + mc) (slots + ms) Q (F0 m pc ls rest) q9)
    (kk : ∀ (u : S) (t : State) (H1 : Heap) (locs1 : List Loc), t.heap = H1 → s.vm.Alike t.vm → post u → B u t → H.size ≤ H1.size → (∀ q : Nat, q < H.size → ¬ A1 q → H1[q]? = H[q]?) → va_S A0 H0 H1 locs1 → W p l e R s m args below meth c H1 locs1 (cells + mc) (slots + ms) Q (F0 m (pc + 3) ls (rest))) : W p l e R s m args below meth c H locs cells slots Q (F0 m pc ls st0) := by
  intro T hT X
  rcases hr T hT X with ⟨v, st₀, t, T', L, h0, X', hL, e1, e2, ⟨⟨u, hv, hp, hb⟩, hF⟩, st⟩ | ⟨q, st₀, t, T', L, E, ce, h0, X', hL, e1, e2, ⟨u, hp, hb, hF⟩, hce, hcv, hcl, st⟩
  · cases hv
    obtain ⟨k1, k2, k3⟩ := vx_keep h0 e1 hS hA hf hL hF
    obtain ⟨t2, a1, b1⟩ := kk u t T'.heap (locs ++ L) e1.symm (by rw [← e2]; exact X'.warmed.alike) hp hb k1 k2 k3 T' rfl X'
    exact ⟨t2, st t2 a1, b1⟩
  · obtain ⟨k1, k2, k3⟩ := vx_keep h0 e1 hS hAX hf hL hF
    obtain ⟨t2, a1, b1⟩ := kx E ce q u t T'.heap (locs ++ L) e1.symm (by rw [← e2]; exact X'.warmed.alike) hp hb k1 k2 k3 (by rw [e1]; exact hce) hcv hcl T' rfl X'
    exact ⟨t2, st.trans a1, b1⟩
/-- caught by the row x of this method's table; the rows ahead don't take it -/
theorem vx_catch {own name : String} {E : String} {ce : Cell} {q : Addr} (hown : s.vm.findClass own = some m.cls) (pre : List ExceptionTableEntry) (x : ExceptionTableEntry) (suf : List ExceptionTableEntry) (hsplit : c.exceptionTable.toList = pre ++ x :: suf)
    (hpass : ∀ z ∈ pre, covers z pc = false ∨ (z.catchType ≠ 0 ∧ ∃ nm : String, (Cond.classLink own z.catchType nm).before args s = true ∧ va_Nc E nm s)) (hx : covers x pc = true) (h0 : x.catchType ≠ 0)
    (hlink : (Cond.classLink own x.catchType name).before args s = true) (hcast : (Cond.castable E name).before args s = true) (hcell : H[q]? = some ce) (hv : ce.vm = .none) (hcl : s.vm.findClass E = some ce.cls)
    (kk : W p l e R s m args below meth c H locs cells slots Q (F0 m x.handlerPc ls [.ref q])) : vx_W p l e R s m args below meth c H locs cells slots Q (F0 m pc ls rest) q := by
  intro T hT X
  have hpl : e.platform.magicAccessors = ({} : Platform).magicAccessors := by rw [X.admits.platform]
  obtain ⟨c3, c4, hc3, hc4, hasg⟩ := Cond.castable_spec hcast
  cases Option.some.inj (hc3.symm.trans hcl)
  obtain ⟨c5, hc5, hcl5⟩ := Cond.classLink_spec hown hlink e.platform hpl
  cases Option.some.inj (hc4.symm.trans hc5)
  obtain ⟨vm', X', st⟩ := X.thenCaughtThrough q (g := F0 m pc ls rest) rfl (Steps.refl _) (by rw [hT]; exact hcell) (by rw [hv]; rfl) (by obtain ⟨k9, h9, -⟩ := Vm.findClass_spec hcl; exact ⟨k9, h9⟩) pre x suf hsplit
    (fun z hz => by
      rcases hpass z hz with h | ⟨hz0, nm, hl1, hn1⟩
      · exact Or.inl h
      · obtain ⟨c6, hc6, hcl6⟩ := Cond.classLink_spec hown hl1 e.platform hpl
        obtain ⟨a8, b8, h1, h2, h3⟩ := hn1
        cases Option.some.inj (h1.symm.trans hcl)
        cases Option.some.inj (h2.symm.trans hc6)
        exact Or.inr ⟨hz0, _, hcl6, h3⟩) hx (Or.inr ⟨h0, c4, hcl5, hasg⟩)
  obtain ⟨t, a1, b1⟩ := kk (T.setVm vm') hT X'
  exact ⟨t, st.trans a1, b1⟩
end Rows
section Ends
variable {p : Program} {l : Launch} {e : Env} {R : Room} {s : State} {m : MethodId} {args : Array Value} {below : List Frame} {meth : Method} {c : Code} {H : Heap} {locs : List Loc} {cells slots : Nat} {Q : State → Prop}
variable {mc ms : Nat} {free : Addr → Prop} {A0 A1 : Nat → Prop} {H0 : Heap} {a : Array Value} {ls : Array Slot} {st0 rest : List Value}
variable {Qc : Array Value → State → Outcome → State → Prop} {XC : String → State → State → Prop}
/-- what a body that may throw owes at its end -/
def vx_MQ (below : List Frame) (Qc : Array Value → State → Outcome → State → Prop) (XC : String → State → State → Prop) (a : Array Value) (s : State) (mc ms : Nat) (free : Addr → Prop) : State → Prop := fun t =>
  ∃ o, t.status = .running ∧ Ended t below o ∧ vx_Q Qc XC mc ms free a s o t
theorem vx_ret {g : JFrame} {mc ms : Nat} (k : W p l e R s m args below meth c H locs cells slots (MQ below Qc args s mc ms free) g) : W p l e R s m args below meth c H locs cells slots (vx_MQ below Qc XC args s mc ms free) g := by
  intro T hT X
  obtain ⟨t, a1, o, b1, b2, b3, b4⟩ := k T hT X
  exact ⟨t, a1, o, b1, b2, Or.inl ⟨b3, b4⟩⟩
/-- not caught here: it goes on to the caller -/
theorem vx_widen {g : JFrame} {q : Addr} {k n : Nat} (h1 : cells ≤ k) (h2 : slots ≤ n) (kk : vx_W p l e R s m args below meth c H locs k n Q g q) : vx_W p l e R s m args below meth c H locs cells slots Q g q := fun T hT X => kk T hT (stand_widen X h1 h2)
theorem vx_out {pc : Nat} {E : String} {ce : Cell} {q : Addr} {mc ms : Nat} (hout : ∀ x ∈ c.exceptionTable.toList, covers x pc = false) (hlocks : meth.locks = false) (hcell : H[q]? = some ce) (hv : ce.vm = .none) (hcl : s.vm.findClass E = some ce.cls)
    (hx : ∀ t : State, t.heap = H → s.vm.Alike t.vm → XC E s t) (hf : ∀ z ∈ locs, free z.base) (hc : cells ≤ mc) (hs : slots ≤ ms) :
    vx_W p l e R s m args below meth c H locs cells slots (vx_MQ below Qc XC args s mc ms free) (F0 m pc ls rest) q := by
  intro T hT X
  obtain ⟨st1, hrun, hend, hW, hsm⟩ := X.leaveThrown q (g := F0 m pc ls rest) rfl rfl rfl hout hlocks
  have hcell9 : (T.setFrames (.throwing q :: below)).heap[q]? = some ce := by
    show T.heap[q]? = some ce
    rw [hT]; exact hcell
  exact ⟨_, st1, .threw q, hrun, hend, Or.inr ⟨q, rfl, E, ce, locs, hx _ hT hW.alike, hcell9, hv, hcl, hW, hsm.mono hc hs, hf⟩⟩
theorem vx_frame {U : State} {k n : Nat} (h : s.sameButNew ({ U with vm := s.vm } : State) locs k n) : s.heap.size ≤ U.heap.size ∧ ∀ q : Nat, q < s.heap.size → (∀ z ∈ locs, z.base ≠ q) → U.heap[q]? = s.heap[q]? := by
  obtain ⟨-, h2, -, -, -, h6⟩ := h
  refine ⟨h2, fun q hq hz => ?_⟩
  obtain ⟨c9, e1, e2, e3, e4⟩ := h6 q _ (Array.getElem?_eq_getElem hq)
  have hs : c9.slots = (s.heap[q]).slots := Array.ext_getElem? fun i => e4 i fun hm => hz _ hm rfl
  have h9 : c9 = s.heap[q] := by
    rw [hs] at e2
    exact e2
  have e5 : U.heap[q]? = some c9 := e1
  rw [e5, h9, Array.getElem?_eq_getElem hq]
/-- the words of a throw but the four that speak of the heap -/
def vx_no (w : Cond) : Bool := decide (w ≠ .isRef (.static Bundle.tN "UNASSIGNED_STACK" Bundle.steD)) && decide (w ≠ .isRef (.static Bundle.tN "SUPPRESSED_SENTINEL" Bundle.listD)) && decide (w ≠ .laysStatic Bundle.tN "UNASSIGNED_STACK" Bundle.steD) && decide (w ≠ .laysStatic Bundle.tN "SUPPRESSED_SENTINEL" Bundle.listD)
def vx_at0 (own : String) (ic : Nat) (X : String) (names : List String) : List Cond := (Bundle.ownAtoms0 own ic X names).filter vx_no
def vx_atS (own : String) (ic : Nat) (X : String) (names : List String) : List Cond := (Bundle.ownAtoms own ic X names).filter vx_no
/-- a word that the tables alone decide, or a good one -/
def vx_ot (w : Cond) : Bool := w.onTables || goodWord w
theorem vx_ot_at {args a' : Array Value} {s U : State} {w : Cond} (hW : s.WarmedH U.vm) (hvm : s.vm = U.vm) (hg : vx_ot w = true) (h : w.before args s = true) : w.before a' U = true := by
  simp only [vx_ot, Bool.or_eq_true] at hg
  rcases hg with hg | hg
  · exact va_tabs hg hvm h
  · exact word_at hW (good_of_word hg) h
/-- a list's words: the good ones out of the method's own list, the others by premises of their own -/
theorem vx_hat {args : Array Value} {s : State} {L B : List Cond} (h1 : ∀ w ∈ L.filter goodWord, w.before args s = true) (h2 : ∀ w ∈ L.filter (fun w => !goodWord w), w ∈ B) (h3 : ∀ w ∈ B, w.before args s = true) : ∀ w ∈ L, w.before args s = true := by
  intro w hw
  by_cases g : goodWord w = true
  · exact h1 w (List.mem_filter.mpr ⟨hw, g⟩)
  · refine h3 w (h2 w (List.mem_filter.mpr ⟨hw, ?_⟩))
    show (!goodWord w) = true
    cases hgw : goodWord w
    · rfl
    · exact absurd hgw g
theorem vx_c {args : Array Value} {s : State} {w : Cond} {B : List Cond} (h : w.before args s = true) (t : ∀ w ∈ B, w.before args s = true) : ∀ w' ∈ w :: B, w'.before args s = true := fun w' h' => (List.mem_cons.mp h').elim (fun e => by rw [e]; exact h) (t w')
theorem vx_n {args : Array Value} {s : State} : ∀ w ∈ ([] : List Cond), w.before args s = true := fun _ h => nomatch h
theorem vx_own {args : Array Value} {s : State} {L : List Cond} (h1 : ∀ w ∈ L.filter vx_no, w.before args s = true)
    (hU : (Cond.isRef (.static Bundle.tN "UNASSIGNED_STACK" Bundle.steD)).before args s = true) (hN : (Cond.isRef (.static Bundle.tN "SUPPRESSED_SENTINEL" Bundle.listD)).before args s = true)
    (lU : (Cond.laysStatic Bundle.tN "UNASSIGNED_STACK" Bundle.steD).before args s = true) (lN : (Cond.laysStatic Bundle.tN "SUPPRESSED_SENTINEL" Bundle.listD).before args s = true) : ∀ w ∈ L, w.before args s = true := by
  intro w hw
  by_cases e1 : w = .isRef (.static Bundle.tN "UNASSIGNED_STACK" Bundle.steD)
  · rw [e1]; exact hU
  · by_cases e2 : w = .isRef (.static Bundle.tN "SUPPRESSED_SENTINEL" Bundle.listD)
    · rw [e2]; exact hN
    · by_cases e3 : w = .laysStatic Bundle.tN "UNASSIGNED_STACK" Bundle.steD
      · rw [e3]; exact lU
      · by_cases e4 : w = .laysStatic Bundle.tN "SUPPRESSED_SENTINEL" Bundle.listD
        · rw [e4]; exact lN
        · exact h1 w (List.mem_filter.mpr ⟨hw, by unfold vx_no; rw [decide_eq_true e1, decide_eq_true e2, decide_eq_true e3, decide_eq_true e4]; rfl⟩)
/-- where a static field lies, its class's statics cell in H -/
def vx_L (C n d : String) (A : Nat → Prop) (U : State) (H : Heap) : Prop := ∃ (c : ClassId) (k : Class) (i : Nat) (f : Field) (a : Nat) (cell : Cell), U.vm.findClass C = some c ∧ U.fieldFound? C n d = some (c, k, i, f) ∧ f.isStatic = true ∧ k.statics = some a ∧ H[a]? = some cell ∧ cell.vm.isStatics = true ∧ cell.cls = c ∧ f.slot < cell.slots.size ∧ k.staticTypes[f.slot]? = some f.type ∧ ¬ A a
theorem vx_L.moved {C n d : String} {A : Nat → Prop} {u U : State} {H : Heap} (hvm : u.vm.Alike U.vm) (h : vx_L C n d A u H) : vx_L C n d A U H := by
  obtain ⟨c, k, i, f, a, cell, h1, h2, h3, h4, h5, h6, h7, h8, h9, h10⟩ := h
  obtain ⟨k', hi', he⟩ := State.fieldFound?_setVm hvm h2
  exact ⟨c, k', i, f, a, cell, by rw [hvm.findClass]; exact h1, hi', h3, by rw [he]; exact h4, h5, h6, h7, h8, by rw [he]; exact h9, h10⟩
theorem vx_L.kept {C n d : String} {A : Nat → Prop} {U : State} {H H1 : Heap} (h : vx_L C n d A U H) (hq : ∀ a : Nat, a < H.size → ¬ A a → H1[a]? = H[a]?) : vx_L C n d A U H1 := by
  obtain ⟨c, k, i, f, a, cell, h1, h2, h3, h4, h5, h6, h7, h8, h9, h10⟩ := h
  exact ⟨c, k, i, f, a, cell, h1, h2, h3, h4, by rw [hq a (Array.getElem?_eq_some_iff.mp h5).1 h10]; exact h5, h6, h7, h8, h9, h10⟩
theorem vx_L.narrow {C n d : String} {A B : Nat → Prop} {U : State} {H : Heap} (h : vx_L C n d A U H) (hAB : ∀ q, B q → A q) : vx_L C n d B U H := by
  obtain ⟨c, k, i, f, a, cell, h1, h2, h3, h4, h5, h6, h7, h8, h9, h10⟩ := h
  exact ⟨c, k, i, f, a, cell, h1, h2, h3, h4, h5, h6, h7, h8, h9, fun z => h10 (hAB _ z)⟩
theorem vx_L.word {C n d : String} {A : Nat → Prop} {s : State} {args : Array Value} (h : vx_L C n d A s s.heap) : (Cond.laysStatic C n d).before args s = true := by
  obtain ⟨c, k, i, f, a, cell, h1, h2, h3, h4, h5, h6, h7, h8, h9, -⟩ := h
  show (Cond.laysStatic C n d).holds args s none s [] = true
  exact Cond.laysStatic_of h1 h2 h3 h4 h5 h6 h7 h8 h9
/-- .. and what it holds: null or some reference -/
def vx_Zq (C n d : String) (A : Nat → Prop) (U : State) (H : Heap) : Prop := va_Zq C n d A U H ∧ vx_L C n d A U H
theorem vx_Zq.moved {C n d : String} {A : Nat → Prop} {u U : State} {H : Heap} (hvm : u.vm.Alike U.vm) (h : vx_Zq C n d A u H) : vx_Zq C n d A U H := ⟨va_Zq.moved hvm h.1, vx_L.moved hvm h.2⟩
theorem vx_Zq.kept {C n d : String} {A : Nat → Prop} {U : State} {H H1 : Heap} (h : vx_Zq C n d A U H) (hq : ∀ a : Nat, a < H.size → ¬ A a → H1[a]? = H[a]?) : vx_Zq C n d A U H1 := ⟨va_Zq.kept h.1 hq, vx_L.kept h.2 hq⟩
theorem vx_Zq.narrow {C n d : String} {A B : Nat → Prop} {U : State} {H : Heap} (h : vx_Zq C n d A U H) (hAB : ∀ q, B q → A q) : vx_Zq C n d B U H := ⟨va_Zq.narrow h.1 hAB, vx_L.narrow h.2 hAB⟩
theorem vx_Zqof {args : Array Value} {s : State} {C n d : String} {A : Nat → Prop} (hl : (Cond.laysStatic C n d).before args s = true) (hini : (Cond.initialized C).before args s = true) (h : (Cond.isRef (.static C n d)).before args s = true) (hA : ∀ a : Nat, a < s.heap.size → ¬ A a) : vx_Zq C n d A s s.heap := by
  refine ⟨va_Zqof hl hini h hA, ?_⟩
  obtain ⟨c, k, i, f, a, cell, h1, h2, h3, h4, h5, h6, h7, h8, h9⟩ := Cond.laysStatic_spec hl
  exact ⟨c, k, i, f, a, cell, h1, h2, h3, h4, h5, h6, h7, h8, h9, hA a (Array.getElem?_eq_some_iff.mp h5).1⟩
theorem vx_isRef {C n d : String} {v : Value} {A : Nat → Prop} {s : State} {args : Array Value} (h : va_Z C n d v A s s.heap) (hv : v.isRef = true) : (Cond.isRef (.static C n d)).before args s = true := by
  obtain ⟨cf, kf, fi, f, a, cell, h1, h2, h3, h4, h5, h6, h7, -⟩ := h
  have he : (Term.static C n d).eval args s none [] s = some v := by
    simp [Term.eval, State.fieldNamed?, h1, h2, h4, h5, h6, h7]
  simp only [Cond.before, Cond.holds, Cond.value, he]
  cases v <;> simp_all [Value.isRef]
theorem vx_isRefq {C n d : String} {A : Nat → Prop} {s : State} {args : Array Value} (h : va_Zq C n d A s s.heap) : (Cond.isRef (.static C n d)).before args s = true := by
  rcases h with h | ⟨t, h⟩
  · exact vx_isRef h rfl
  · exact vx_isRef h rfl
/-- the same frame, seen from here: as if the method were called anew in this heap -/
theorem vx_rebase {T : State} (X : Stand p l e R s m args below meth c T locs cells slots) {R' : Room} (hf : R'.frames ≤ R.frames) (hl : R'.locals ≤ R.locals) (hc : cells + R'.cells ≤ R.cells) (hs : slots + R'.slots ≤ R.slots) :
    Stand p l e R' ((T.setVm s.vm).setFrames (.invoking m args :: below)) m args below meth c T [] 0 0 := by
  have htop : (T.setVm s.vm).topJava?.isSome := X.here.top
  have hF : ((T.setVm s.vm).setFrames (.invoking m args :: below)).frames = .invoking m args :: below := State.frames_setFrames _ (State.cur_lt_of_top htop)
  obtain ⟨g₀, hg0⟩ := Option.isSome_iff_exists.mp htop
  obtain ⟨r, hr⟩ := State.topJava?_eq_some.mp hg0
  have hl9 : e.platform.stackLimits (T.setVm s.vm).me = e.platform.stackLimits s.me := X.limits
  have hb9 : (T.setVm s.vm).me.stackBytes = s.me.stackBytes := X.bytes
  refine ⟨X.admits, X.cas, X.clock, hF, ?_, X.hears, X.method, X.code, X.here, X.tail, X.warmed, ?_, ?_, ?_⟩
  · have h := X.room
    have hU : ((T.setVm s.vm).setFrames (.invoking m args :: below)).localsInUse = s.localsInUse := by
      rw [State.localsInUse_invoking hF (meth := meth) (c := c) X.method X.code, State.localsInUse_invoking X.frames X.method X.code]
    simp only [State.hasRoom, Bool.and_eq_true, decide_eq_true_eq] at h ⊢
    obtain ⟨⟨⟨⟨h1, h2, h3, h4, h5, h6⟩, h7⟩, h8⟩, h9⟩ := h
    rw [X.frames, List.length_cons] at h2 h3
    have q1 := X.heapSize
    have q2 := X.used
    simp only [hF, hU, List.length_cons, State.stackLimits_setFrames, State.stackBytes_setFrames, hl9, hb9]
    refine ⟨⟨⟨⟨by omega, by omega, by omega, by omega, by omega, h6⟩, ?_⟩, ?_⟩, X.book⟩
    · show T.heap.size + R'.cells ≤ e.platform.maxCells
      omega
    · show T.slotsUsed + R'.slots ≤ e.platform.maxSlots
      omega
  · rw [State.stackLimits_setFrames]; rfl
  · rw [State.stackBytes_setFrames]; rfl
  · refine ⟨?_, Nat.le_refl _, Nat.le_refl _, ?_, ?_, fun a c9 h9 => ⟨c9, h9, rfl, rfl, fun _ _ => rfl⟩⟩
    · obtain ⟨t, ht, -⟩ := State.frames_cons hr
      show T.setVm s.vm = { ((T.setVm s.vm).setFrames (.invoking m args :: below)).setFrames (T.setVm s.vm).frames with heap := T.heap, slotsUsed := T.slotsUsed }
      rw [State.setFrames_setFrames, State.setFrames_self ht]
      rfl
    · show T.slotsUsed = T.slotsUsed + ((T.heap.toList.drop T.heap.size).map (·.slots.size)).sum
      rw [List.drop_eq_nil_of_le (Nat.le_of_eq Array.length_toList)]
      rfl
    · show ((T.heap.toList.drop T.heap.size).map (·.slots.size)).sum ≤ 0
      rw [List.drop_eq_nil_of_le (Nat.le_of_eq Array.length_toList)]
      exact Nat.le_refl _
/-- 'throw new E()': new; dup; invokespecial; athrow -/
theorem vx_throw0 {cc : ByteArray} {pc : Nat} (hexec : p.tables.exec = Jvm.exec) (hb : c.code = cc) (hl : l.stackTraces = false) {own cls : String} {names : List String} {ik ic mc ms : Nat} {A : Nat → Prop}
    (hown : s.vm.findClass own = some m.cls) (hcls : Bundle.fit cls = true) (hnames : ∀ n ∈ names, Bundle.fit n = true)
    (hk : (Cond.classLink own ik cls).before args s = true) (hini : (Cond.initialized cls).before args s = true) (hat : ∀ w ∈ vx_at0 own ic cls names, w.before args s = true)
    (hgood : ∀ w ∈ Cond.classLink own ik cls :: Cond.initialized cls :: vx_at0 own ic cls names, vx_ot w = true)
    (hU : vx_Zq Bundle.tN "UNASSIGNED_STACK" Bundle.steD A s s.heap) (hN : vx_Zq Bundle.tN "SUPPRESSED_SENTINEL" Bundle.listD A s s.heap) (hS : va_S A s.heap H locs) (hsize : ls.size = c.maxLocals)
    (d0 : decode cc pc = .ok (.new ik, 3)) (d3 : decode cc (pc + 3) = .ok (.dup, 1)) (d4 : decode cc (pc + 4) = .ok (.invokespecial ic, 3)) (d7 : decode cc (pc + 7) = .ok (.athrow, 1))
    (hout : ∀ x ∈ c.exceptionTable.toList, covers x (pc + 7) = false)
    (hRframes : names.length + 3 < R.frames) (hRlocals : (rest.map fun v => v.category).sum + (13 * (names.length + 1) + 42) ≤ R.locals) (hRcells : cells + 1 ≤ R.cells) (hRslots : slots + 6 ≤ R.slots) (hlocks : meth.locks = false)
    (hx : ∀ t : State, s.vm.Alike t.vm → H.size ≤ t.heap.size → (∀ q : Nat, q < H.size → t.heap[q]? = H[q]?) → XC cls s t)
    (hf : ∀ z ∈ locs, free z.base) (hc : cells + 1 ≤ mc) (hs : slots + 6 ≤ ms) :
    W p l e R s m args below meth c H locs cells slots (vx_MQ below Qc XC args s mc ms free) (F0 m pc ls rest) := by
  intro T hT X
  have htr : e.platform.stackTraces = false := (show e.platform.stackTraces = l.stackTraces by rw [X.admits.platform]).trans hl
  have Y := vx_rebase X (R' := { frames := R.frames, locals := R.locals, cells := 1, slots := 6 }) (Nat.le_refl _) (Nat.le_refl _) hRcells hRslots
  obtain ⟨s', hA⟩ : ∃ z, z = (T.setVm s.vm).setFrames (.invoking m args :: below) := ⟨_, rfl⟩
  rw [← hA] at Y
  have hvm : s'.vm = s.vm := by rw [hA]; rfl
  have hhp : s'.heap = H := by rw [hA]; exact hT
  have hW0 : s.WarmedH s'.vm := by rw [hvm]; exact State.WarmedH.refl s
  have hat' : ∀ w ∈ vx_at0 own ic cls names, w.before args s' = true := fun w hw => vx_ot_at hW0 hvm.symm (hgood w (List.mem_cons_of_mem _ (List.mem_cons_of_mem _ hw))) (hat w hw)
  have hk' : (Cond.classLink own ik cls).before args s' = true := vx_ot_at hW0 hvm.symm (hgood _ List.mem_cons_self) hk
  have hini' : (Cond.initialized cls).before args s' = true := vx_ot_at hW0 hvm.symm (hgood _ (List.mem_cons_of_mem _ List.mem_cons_self)) hini
  have hU' : vx_Zq Bundle.tN "UNASSIGNED_STACK" Bundle.steD A s' s'.heap := by rw [hhp]; exact vx_Zq.moved hW0.alike (hU.kept hS.2.1)
  have hN' : vx_Zq Bundle.tN "SUPPRESSED_SENTINEL" Bundle.listD A s' s'.heap := by rw [hhp]; exact vx_Zq.moved hW0.alike (hN.kept hS.2.1)
  have h : ∀ w ∈ Bundle.ownAtoms0 own ic cls names, w.before args s' = true := vx_own hat' (vx_isRefq hU'.1) (vx_isRefq hN'.1) hU'.2.word hN'.2.word
  have hown' : s'.vm.findClass own = some m.cls := by rw [hvm]; exact hown
  have hins : (Cond.instantiable cls 6).before args s' = true := h _ (by simp [Bundle.ownAtoms0])
  obtain ⟨vm₁, cX, kX, hfX, hkX, -, -, X₁, st1⟩ := Y.newCold hexec (own := own) (C := cls) (index := ik) (n := 6) hown' hk' hins hini'
    (g := F0 m pc ls rest) rfl (by rw [hb]; exact d0) (Nat.le_refl _) (Nat.le_refl _)
  generalize hT1 : (T.setVm vm₁).pushCell { cls := cX, slots := kX.instanceTypes.map defaultValue, vm := .none } = T1 at X₁ st1
  have hcat : (Value.ref T.heap.size).category = 1 := rfl
  have hcellA : T1.heap[T.heap.size]? = some (freshCell cX kX) := by rw [← hT1]; exact State.heap_pushCell_size _ _
  have d3' : decode c.code (pc + 3) = .ok (.dup, 1) := by rw [hb]; exact d3
  obtain ⟨U, hsteps, hrun, hend, hW, hsame, ce, hce, hO⟩ := X₁.ctorThrow0 hexec htr (own := own) (cls := cls) (names := names) (ic := ic) hown' hcls hnames h (fun x hx => nomatch hx) hfX hkX hcellA (by rw [hhp, hT]; exact Nat.le_refl _)
    (g := { method := m, pc := pc + 4, locals := ls, stack := .ref T.heap.size :: .ref T.heap.size :: rest, locked := none }) rfl hsize rfl rfl (rest := rest) rfl
    (by rw [hb]; exact d4) (by rw [hb]; exact d7) hout hRframes (by simp only [List.map_cons, List.sum_cons, hcat]; omega) hlocks
  obtain ⟨f1, f2⟩ := vx_frame hsame
  rw [hhp] at f1 f2
  have hWs : s.WarmedH U.vm := State.WarmedH.trans hW0 hW
  have hcl : s.vm.findClass cls = some ce.cls := by
    have h9 := hO.cls
    rw [hvm] at h9
    exact h9
  have hall : s.sameButNew ({ U with vm := s.vm } : State) locs mc ms := by
    subst hA
    obtain ⟨e1, e2⟩ := hsame
    rw [State.setFrames_setFrames] at e1
    have h2 : (T.setVm s.vm).sameButNew ({ U with vm := s.vm } : State) [] (0 + 1) (0 + 6) := ⟨e1, e2⟩
    have h3 := X.same.trans h2
    rw [List.append_nil] at h3
    exact h3.mono hc hs
  refine ⟨U, ?_, .threw T.heap.size, hrun, hend, Or.inr ⟨T.heap.size, rfl, cls, ce, locs, hx U hWs.alike f1 (fun q hq => f2 q hq (fun z hz => nomatch hz)), hce, hO.vm, hcl, hWs, hall, hf⟩⟩
  refine st1 _ ?_
  show Steps p.tables e below (T1.setTop { method := m, pc := pc + 3, locals := ls, stack := .ref T.heap.size :: rest, locked := none }) _
  jvm_step X₁.here [X₁.here.top, hexec, d3', Value.category]
  exact hsteps
/-- 'throw new E("text")': new; dup; ldc; invokespecial; athrow -/
theorem vx_throwS {cc : ByteArray} {pc : Nat} (hexec : p.tables.exec = Jvm.exec) (hb : c.code = cc) (hl : l.stackTraces = false) {own cls text : String} {names : List String} {ik is ic mc ms sa : Nat} {A : Nat → Prop}
    (hown : s.vm.findClass own = some m.cls) (hcls : Bundle.fit cls = true) (hnames : ∀ n ∈ names, Bundle.fit n = true)
    (hk : (Cond.classLink own ik cls).before args s = true) (hini : (Cond.initialized cls).before args s = true) (hstr : vk_R own is text sa s) (hat : ∀ w ∈ vx_atS own ic cls names, w.before args s = true)
    (hgood : ∀ w ∈ Cond.classLink own ik cls :: Cond.initialized cls :: vx_atS own ic cls names, vx_ot w = true)
    (hU : vx_Zq Bundle.tN "UNASSIGNED_STACK" Bundle.steD A s s.heap) (hN : vx_Zq Bundle.tN "SUPPRESSED_SENTINEL" Bundle.listD A s s.heap) (hS : va_S A s.heap H locs) (hsize : ls.size = c.maxLocals)
    (d0 : decode cc pc = .ok (.new ik, 3)) (d3 : decode cc (pc + 3) = .ok (.dup, 1)) (d4 : decode cc (pc + 4) = .ok (.ldc is, 2)) (d6 : decode cc (pc + 6) = .ok (.invokespecial ic, 3)) (d9 : decode cc (pc + 9) = .ok (.athrow, 1))
    (hout : ∀ x ∈ c.exceptionTable.toList, covers x (pc + 9) = false)
    (hRframes : names.length + 3 < R.frames) (hRlocals : (rest.map fun v => v.category).sum + (13 * (names.length + 1) + 43) ≤ R.locals) (hRcells : cells + 1 ≤ R.cells) (hRslots : slots + 6 ≤ R.slots) (hlocks : meth.locks = false)
    (hx : ∀ t : State, s.vm.Alike t.vm → H.size ≤ t.heap.size → (∀ q : Nat, q < H.size → t.heap[q]? = H[q]?) → XC cls s t)
    (hf : ∀ z ∈ locs, free z.base) (hc : cells + 1 ≤ mc) (hs : slots + 6 ≤ ms) :
    W p l e R s m args below meth c H locs cells slots (vx_MQ below Qc XC args s mc ms free) (F0 m pc ls rest) := by
  intro T hT X
  have htr : e.platform.stackTraces = false := (show e.platform.stackTraces = l.stackTraces by rw [X.admits.platform]).trans hl
  have Y := vx_rebase X (R' := { frames := R.frames, locals := R.locals, cells := 1, slots := 6 }) (Nat.le_refl _) (Nat.le_refl _) hRcells hRslots
  obtain ⟨s', hA⟩ : ∃ z, z = (T.setVm s.vm).setFrames (.invoking m args :: below) := ⟨_, rfl⟩
  rw [← hA] at Y
  have hvm : s'.vm = s.vm := by rw [hA]; rfl
  have hhp : s'.heap = H := by rw [hA]; exact hT
  have hW0 : s.WarmedH s'.vm := by rw [hvm]; exact State.WarmedH.refl s
  have hat' : ∀ w ∈ vx_atS own ic cls names, w.before args s' = true := fun w hw => vx_ot_at hW0 hvm.symm (hgood w (List.mem_cons_of_mem _ (List.mem_cons_of_mem _ hw))) (hat w hw)
  have hk' : (Cond.classLink own ik cls).before args s' = true := vx_ot_at hW0 hvm.symm (hgood _ List.mem_cons_self) hk
  have hini' : (Cond.initialized cls).before args s' = true := vx_ot_at hW0 hvm.symm (hgood _ (List.mem_cons_of_mem _ List.mem_cons_self)) hini
  have hU' : vx_Zq Bundle.tN "UNASSIGNED_STACK" Bundle.steD A s' s'.heap := by rw [hhp]; exact vx_Zq.moved hW0.alike (hU.kept hS.2.1)
  have hN' : vx_Zq Bundle.tN "SUPPRESSED_SENTINEL" Bundle.listD A s' s'.heap := by rw [hhp]; exact vx_Zq.moved hW0.alike (hN.kept hS.2.1)
  have h : ∀ w ∈ Bundle.ownAtoms own ic cls names, w.before args s' = true := vx_own hat' (vx_isRefq hU'.1) (vx_isRefq hN'.1) hU'.2.word hN'.2.word
  have hown' : s'.vm.findClass own = some m.cls := by rw [hvm]; exact hown
  have hins : (Cond.instantiable cls 6).before args s' = true := h _ (by simp [Bundle.ownAtoms])
  obtain ⟨vm₁, cX, kX, hfX, hkX, -, -, X₁, st1⟩ := Y.newCold hexec (own := own) (C := cls) (index := ik) (n := 6) hown' hk' hins hini'
    (g := F0 m pc ls rest) rfl (by rw [hb]; exact d0) (Nat.le_refl _) (Nat.le_refl _)
  generalize hT1 : (T.setVm vm₁).pushCell { cls := cX, slots := kX.instanceTypes.map defaultValue, vm := .none } = T1 at X₁ st1
  have hcat : (Value.ref T.heap.size).category = 1 := rfl
  have hcellA : T1.heap[T.heap.size]? = some (freshCell cX kX) := by rw [← hT1]; exact State.heap_pushCell_size _ _
  have d3' : decode c.code (pc + 3) = .ok (.dup, 1) := by rw [hb]; exact d3
  have d4' : decode c.code (pc + 4) = .ok (.ldc is, 2) := by rw [hb]; exact d4
  have hstr' : vk_R own is text sa s' := vk_R.warm hW0 hstr
  obtain ⟨U, hsteps, hrun, hend, hW, hsame, ce, hce, hO⟩ := X₁.ctorThrowS hexec htr (own := own) (cls := cls) (names := names) (ic := ic) hown' hcls hnames h (fun x hx => nomatch hx) hfX hkX hcellA (by rw [hhp, hT]; exact Nat.le_refl _) (msg := .ref sa) rfl
    (g := { method := m, pc := pc + 6, locals := ls, stack := .ref sa :: .ref T.heap.size :: .ref T.heap.size :: rest, locked := none }) rfl hsize rfl rfl (rest := rest) rfl
    (by rw [hb]; exact d6) (by rw [hb]; exact d9) hout hRframes (by simp only [List.map_cons, List.sum_cons, hcat]; omega) hlocks
  obtain ⟨f1, f2⟩ := vx_frame hsame
  rw [hhp] at f1 f2
  have hWs : s.WarmedH U.vm := State.WarmedH.trans hW0 hW
  have hcl : s.vm.findClass cls = some ce.cls := by
    have h9 := hO.cls
    rw [hvm] at h9
    exact h9
  have hall : s.sameButNew ({ U with vm := s.vm } : State) locs mc ms := by
    subst hA
    obtain ⟨e1, e2⟩ := hsame
    rw [State.setFrames_setFrames] at e1
    have h2 : (T.setVm s.vm).sameButNew ({ U with vm := s.vm } : State) [] (0 + 1) (0 + 6) := ⟨e1, e2⟩
    have h3 := X.same.trans h2
    rw [List.append_nil] at h3
    exact h3.mono hc hs
  refine ⟨U, ?_, .threw T.heap.size, hrun, hend, Or.inr ⟨T.heap.size, rfl, cls, ce, locs, hx U hWs.alike f1 (fun q hq => f2 q hq (fun z hz => nomatch hz)), hce, hO.vm, hcl, hWs, hall, hf⟩⟩
  refine st1 _ ?_
  show Steps p.tables e below (T1.setTop { method := m, pc := pc + 3, locals := ls, stack := .ref T.heap.size :: rest, locked := none }) _
  jvm_step X₁.here [X₁.here.top, hexec, d3', Value.category]
  exact X₁.ldcString hexec (own := own) (text := text) (index := is) (a := sa) hown' hstr'.1 hstr'.2
    (g := { method := m, pc := pc + 4, locals := ls, stack := .ref T.heap.size :: .ref T.heap.size :: rest, locked := none }) rfl d4' _ hsteps
/-- 'throw new E("text")', the text by a wide index -/
theorem vx_throwSW {cc : ByteArray} {pc : Nat} (hexec : p.tables.exec = Jvm.exec) (hb : c.code = cc) (hl : l.stackTraces = false) {own cls text : String} {names : List String} {ik is ic mc ms sa : Nat} {A : Nat → Prop}
    (hown : s.vm.findClass own = some m.cls) (hcls : Bundle.fit cls = true) (hnames : ∀ n ∈ names, Bundle.fit n = true)
    (hk : (Cond.classLink own ik cls).before args s = true) (hini : (Cond.initialized cls).before args s = true) (hstr : vk_R own is text sa s) (hat : ∀ w ∈ vx_atS own ic cls names, w.before args s = true)
    (hgood : ∀ w ∈ Cond.classLink own ik cls :: Cond.initialized cls :: vx_atS own ic cls names, vx_ot w = true)
    (hU : vx_Zq Bundle.tN "UNASSIGNED_STACK" Bundle.steD A s s.heap) (hN : vx_Zq Bundle.tN "SUPPRESSED_SENTINEL" Bundle.listD A s s.heap) (hS : va_S A s.heap H locs) (hsize : ls.size = c.maxLocals)
    (d0 : decode cc pc = .ok (.new ik, 3)) (d3 : decode cc (pc + 3) = .ok (.dup, 1)) (d4 : decode cc (pc + 4) = .ok (.ldc_w is, 3)) (d7 : decode cc (pc + 7) = .ok (.invokespecial ic, 3)) (d10 : decode cc (pc + 10) = .ok (.athrow, 1))
    (hout : ∀ x ∈ c.exceptionTable.toList, covers x (pc + 10) = false)
    (hRframes : names.length + 3 < R.frames) (hRlocals : (rest.map fun v => v.category).sum + (13 * (names.length + 1) + 43) ≤ R.locals) (hRcells : cells + 1 ≤ R.cells) (hRslots : slots + 6 ≤ R.slots) (hlocks : meth.locks = false)
    (hx : ∀ t : State, s.vm.Alike t.vm → H.size ≤ t.heap.size → (∀ q : Nat, q < H.size → t.heap[q]? = H[q]?) → XC cls s t)
    (hf : ∀ z ∈ locs, free z.base) (hc : cells + 1 ≤ mc) (hs : slots + 6 ≤ ms) :
    W p l e R s m args below meth c H locs cells slots (vx_MQ below Qc XC args s mc ms free) (F0 m pc ls rest) := by
  intro T hT X
  have htr : e.platform.stackTraces = false := (show e.platform.stackTraces = l.stackTraces by rw [X.admits.platform]).trans hl
  have Y := vx_rebase X (R' := { frames := R.frames, locals := R.locals, cells := 1, slots := 6 }) (Nat.le_refl _) (Nat.le_refl _) hRcells hRslots
  obtain ⟨s', hA⟩ : ∃ z, z = (T.setVm s.vm).setFrames (.invoking m args :: below) := ⟨_, rfl⟩
  rw [← hA] at Y
  have hvm : s'.vm = s.vm := by rw [hA]; rfl
  have hhp : s'.heap = H := by rw [hA]; exact hT
  have hW0 : s.WarmedH s'.vm := by rw [hvm]; exact State.WarmedH.refl s
  have hat' : ∀ w ∈ vx_atS own ic cls names, w.before args s' = true := fun w hw => vx_ot_at hW0 hvm.symm (hgood w (List.mem_cons_of_mem _ (List.mem_cons_of_mem _ hw))) (hat w hw)
  have hk' : (Cond.classLink own ik cls).before args s' = true := vx_ot_at hW0 hvm.symm (hgood _ List.mem_cons_self) hk
  have hini' : (Cond.initialized cls).before args s' = true := vx_ot_at hW0 hvm.symm (hgood _ (List.mem_cons_of_mem _ List.mem_cons_self)) hini
  have hU' : vx_Zq Bundle.tN "UNASSIGNED_STACK" Bundle.steD A s' s'.heap := by rw [hhp]; exact vx_Zq.moved hW0.alike (hU.kept hS.2.1)
  have hN' : vx_Zq Bundle.tN "SUPPRESSED_SENTINEL" Bundle.listD A s' s'.heap := by rw [hhp]; exact vx_Zq.moved hW0.alike (hN.kept hS.2.1)
  have h : ∀ w ∈ Bundle.ownAtoms own ic cls names, w.before args s' = true := vx_own hat' (vx_isRefq hU'.1) (vx_isRefq hN'.1) hU'.2.word hN'.2.word
  have hown' : s'.vm.findClass own = some m.cls := by rw [hvm]; exact hown
  have hins : (Cond.instantiable cls 6).before args s' = true := h _ (by simp [Bundle.ownAtoms])
  obtain ⟨vm₁, cX, kX, hfX, hkX, -, -, X₁, st1⟩ := Y.newCold hexec (own := own) (C := cls) (index := ik) (n := 6) hown' hk' hins hini'
    (g := F0 m pc ls rest) rfl (by rw [hb]; exact d0) (Nat.le_refl _) (Nat.le_refl _)
  generalize hT1 : (T.setVm vm₁).pushCell { cls := cX, slots := kX.instanceTypes.map defaultValue, vm := .none } = T1 at X₁ st1
  have hcat : (Value.ref T.heap.size).category = 1 := rfl
  have hcellA : T1.heap[T.heap.size]? = some (freshCell cX kX) := by rw [← hT1]; exact State.heap_pushCell_size _ _
  have d3' : decode c.code (pc + 3) = .ok (.dup, 1) := by rw [hb]; exact d3
  have d4' : decode c.code (pc + 4) = .ok (.ldc_w is, 3) := by rw [hb]; exact d4
  have hstr' : vk_R own is text sa s' := vk_R.warm hW0 hstr
  obtain ⟨U, hsteps, hrun, hend, hW, hsame, ce, hce, hO⟩ := X₁.ctorThrowS hexec htr (own := own) (cls := cls) (names := names) (ic := ic) hown' hcls hnames h (fun x hx => nomatch hx) hfX hkX hcellA (by rw [hhp, hT]; exact Nat.le_refl _) (msg := .ref sa) rfl
    (g := { method := m, pc := pc + 7, locals := ls, stack := .ref sa :: .ref T.heap.size :: .ref T.heap.size :: rest, locked := none }) rfl hsize rfl rfl (rest := rest) rfl
    (by rw [hb]; exact d7) (by rw [hb]; exact d10) hout hRframes (by simp only [List.map_cons, List.sum_cons, hcat]; omega) hlocks
  obtain ⟨f1, f2⟩ := vx_frame hsame
  rw [hhp] at f1 f2
  have hWs : s.WarmedH U.vm := State.WarmedH.trans hW0 hW
  have hcl : s.vm.findClass cls = some ce.cls := by
    have h9 := hO.cls
    rw [hvm] at h9
    exact h9
  have hall : s.sameButNew ({ U with vm := s.vm } : State) locs mc ms := by
    subst hA
    obtain ⟨e1, e2⟩ := hsame
    rw [State.setFrames_setFrames] at e1
    have h2 : (T.setVm s.vm).sameButNew ({ U with vm := s.vm } : State) [] (0 + 1) (0 + 6) := ⟨e1, e2⟩
    have h3 := X.same.trans h2
    rw [List.append_nil] at h3
    exact h3.mono hc hs
  refine ⟨U, ?_, .threw T.heap.size, hrun, hend, Or.inr ⟨T.heap.size, rfl, cls, ce, locs, hx U hWs.alike f1 (fun q hq => f2 q hq (fun z hz => nomatch hz)), hce, hO.vm, hcl, hWs, hall, hf⟩⟩
  refine st1 _ ?_
  show Steps p.tables e below (T1.setTop { method := m, pc := pc + 3, locals := ls, stack := .ref T.heap.size :: rest, locked := none }) _
  jvm_step X₁.here [X₁.here.top, hexec, d3', Value.category]
  exact X₁.ldcStringW hexec (own := own) (text := text) (index := is) (a := sa) hown' hstr'.1 hstr'.2
    (g := { method := m, pc := pc + 4, locals := ls, stack := .ref T.heap.size :: .ref T.heap.size :: rest, locked := none }) rfl d4' _ hsteps
end Ends
section Bodies
variable {l : Launch}
theorem vx_ofW {y : MethodName} {ws ws' : List Cond} {rm : Room} {Pc : Array Value → State → Prop} {Qc : Array Value → State → Outcome → State → Prop} {XC : String → State → State → Prop} {mc ms : Nat} {free : Addr → Prop} {cc : ByteArray} {maxL : Nat} {ret : Option FieldType}
    (hy : plainName y.cls = true) (hw : ws = Cond.code y cc maxL ret :: ws')
    (body : ∀ p e s m args below meth c s₁, BodyLoose p l y (headSpec ws rm) cc maxL ret e s m args below meth c s₁ → c.maxLocals = maxL → (∀ x ∈ c.exceptionTable.toList, False) → Pc args s →
      W p l e (headSpec ws rm).room s m args below meth c s.heap [] 0 0 (vx_MQ below Qc XC args s mc ms free) (entryFrame m args maxL)) : vx_Met l y ws rm Pc Qc XC mc ms free := by
  refine MetFree.of_bodyS (code := cc) (maxLocals := maxL) (ret := ret) hy ?_ ?_
  · intro args s m h hn
    obtain ⟨meth, c, h1, h2, h3, h4, h5, h6, -, -⟩ := Cond.code_spec hn (atoms_spec (ws := ws) h _ (by rw [hw]; exact List.mem_cons_self))
    exact ⟨meth, c, h1, h2, h3, h4, h5, h6⟩
  · intro p e s m args below meth c s₁ B hml hP _
    have hh0 : s₁.heap = s.heap := by rw [B.state]; rfl
    have ht : ∀ x ∈ c.exceptionTable.toList, False := by
      obtain ⟨meth9, c9, h1, h2, -, -, -, -, h7, -⟩ := Cond.code_spec B.named (atoms_spec (ws := ws) B.pre _ (by rw [hw]; exact List.mem_cons_self))
      cases Option.some.inj (h1.symm.trans B.method)
      cases Option.some.inj (h2.symm.trans (Stand.of_body B).code)
      intro x hx
      rw [Array.isEmpty_iff.mp h7] at hx
      cases hx
    obtain ⟨t, a1, o, b1, b2, b3⟩ := body p e s m args below meth c s₁ B hml ht hP s₁ hh0 (Stand.of_body B)
    exact ⟨t, o, a1, b1, b2, b3⟩
/-- the table of a body with handlers -/
theorem vx_table {p : Program} {x y : MethodName} {S : Spec} {cc bytes : ByteArray} {maxL maxL' : Nat} {ret ret' : Option FieldType} {e : Env} {s s₁ : State} {m : MethodId} {args : Array Value} {below : List Frame} {meth : Method} {c : Code} {hh : List (Nat × Nat × Nat × Nat)}
    (B : BodyLoose p l y S cc maxL ret e s m args below meth c s₁) (h : (Cond.codeWith y bytes maxL' ret' hh).before args s = true) : c.exceptionTable.toList = tableOf hh := by
  obtain ⟨m9, meth9, c9, hn9, h1, h2, -, -, h6, -⟩ := Cond.codeWith_spec h
  cases Option.some.inj (hn9.symm.trans B.named)
  cases Option.some.inj (h1.symm.trans B.method)
  cases Option.some.inj (h2.symm.trans (Stand.of_body B).code)
  rw [← h6, table_eq]
end Bodies
end VXA
/-! ===== END ===== -/
/-! ===== BEGIN a static call of a method with an exception table ===== -/
section VXS
variable {p : Program} {l : Launch} {e : Env} {R : Room} {s : State} {m : MethodId} {args : Array Value} {below : List Frame} {meth : Method} {c : Code} {T : State} {H : Heap} {locs : List Loc} {cells slots : Nat}
abbrev vx_CSW (R : Room) (s : State) (args : Array Value) (own : String) (index : Nat) (y : MethodName) (bytes : ByteArray) (maxL : Nat) (ret : Option FieldType) (hh : List (Nat × Nat × Nat × Nat)) (ws : List Cond) (rm : Room) (mc ms n : Nat) : Prop :=
  (rm.cells = mc ∧ rm.slots = ms ∧ rm.frames + 1 ≤ R.frames ∧ 8 + (maxL + 11) + rm.locals ≤ R.locals ∧ (∀ w ∈ ws, ∀ (a' : Array Value) (U : State), s.WarmedH U.vm → w.before a' U = true) ∧ Cond.codeWith y bytes maxL ret hh ∈ ws) ∧
  (Cond.codeWith y bytes maxL ret hh).before args s = true ∧ (Cond.initialized y.cls).before args s = true ∧ (y.cls ≠ "java/lang/invoke/MethodHandle" ∧ y.cls ≠ "java/lang/invoke/VarHandle") ∧
  (∀ sig, parseMethodDescriptor y.desc = some sig → n = sig.parameters.length) ∧ (Cond.methodLink own index y).before args s = true ∧ (Cond.static y).before args s = true
theorem vx_cwSW {own : String} {index maxL mc ms : Nat} {y : MethodName} {bytes : ByteArray} {ret : Option FieldType} {hh : List (Nat × Nat × Nat × Nat)} {Ts ws ws' : List Cond} {rm : Room} (n : Nat) (ht : ∀ w ∈ Ts, w.before args s = true) (hT : GoodIn Ts (va_wsS own index y ws)) (hw : ws = Cond.codeWith y bytes maxL ret hh :: ws') (hrc : rm.cells = mc) (hrs : rm.slots = ms)
    (hd : y.cls ≠ "java/lang/invoke/MethodHandle" ∧ y.cls ≠ "java/lang/invoke/VarHandle" ∧ (parseMethodDescriptor y.desc).map (fun d => d.parameters.length) = some n) (hR : rm.frames + 1 ≤ R.frames ∧ 8 + (maxL + 11) + rm.locals ≤ R.locals) :
    vx_CSW R s args own index y bytes maxL ret hh ws rm mc ms n := by
  have ok : ∀ w ∈ va_wsS own index y ws, w.before args s = true := fun w h => ht w (hT w h).1
  have hG : GoodIn Ts ws := fun w h => hT w (by unfold va_wsS; exact List.mem_append_right _ h)
  have hc : Cond.codeWith y bytes maxL ret hh ∈ ws := by rw [hw]; exact List.mem_cons_self
  refine ⟨⟨hrc, hrs, hR.1, hR.2, pay_in ht hG, hc⟩, ht _ (hG _ hc).1, ok _ (by simp [va_wsS]), ⟨hd.1, hd.2.1⟩, fun sig h => ?_, ok _ (by simp [va_wsS]), ok _ (by simp [va_wsS])⟩
  have h2 := hd.2.2
  rw [h] at h2
  exact (Option.some.inj h2).symm
theorem vx_callSW (X : Stand p l e R s m args below meth c T locs cells slots) (hexec : p.tables.exec = Jvm.exec) {own : String} {index : Nat} {y : MethodName} {bytes : ByteArray} {maxL : Nat} {ret : Option FieldType} {hh : List (Nat × Nat × Nat × Nat)}
    (hown : s.vm.findClass own = some m.cls) (hlink : (Cond.methodLink own index y).before args s = true) (hstat : (Cond.static y).before args s = true) (hinit : (Cond.initialized y.cls).before args s = true)
    (hcode : (Cond.codeWith y bytes maxL ret hh).before args s = true) (hy : y.cls ≠ "java/lang/invoke/MethodHandle" ∧ y.cls ≠ "java/lang/invoke/VarHandle")
    {W9 : Nat} {Pre : Pt → Array Value → Prop} {Post : Pt → Array Value → Option Value → Pt → Prop} (hK : Back l R p e below s args y 3 W9 Pre Post)
    {g : JFrame} (hg : g.method = m) (hsize : g.locals.size = c.maxLocals) {argsL rest : List Value} (hlen : ∀ sig, parseMethodDescriptor y.desc = some sig → argsL.length = sig.parameters.length)
    (hstack : g.stack = argsL.reverse ++ rest) (hW : 2 * g.monitorRoom + (rest.map fun v => v.category).sum ≤ W9) (hdg : decode c.code g.pc = .ok (.invokestatic index, 3))
    (hpre : ∀ vm₁, s.WarmedH vm₁ → Pre ⟨T.setVm vm₁, locs, cells, slots⟩ argsL.toArray) :
    ∃ (v : Option Value) (vm₁ : Vm) (B : Pt), s.WarmedH vm₁ ∧ Stand p l e R s m args below meth c B.U B.locs B.cells B.slots ∧ Post ⟨T.setVm vm₁, locs, cells, slots⟩ argsL.toArray v B ∧
      ∀ target, Steps p.tables e below (B.U.setTop { g with pc := g.pc + 3, stack := v.toList ++ rest }) target → Steps p.tables e below (T.setTop g) target := by
  obtain ⟨mk, methM, cM, hnamed, hmethM, -, -, -, -, -, -, hsigM⟩ := Cond.codeWith_spec hcode
  have hstatic : methM.isStatic = true := Cond.static_spec hnamed hmethM hstat
  obtain ⟨kP, hkP, -⟩ := className_of_methodNamed hnamed
  have hinitP : kP.init = .initialized := Cond.initialized_spec (findClass_of_methodNamed hnamed) hkP hinit
  obtain ⟨vm₁, X₁, hstep₁⟩ := X.invokestatic hexec hown hlink hnamed hmethM hstatic hkP hinitP hy (g := g) hg (argsL := argsL) (rest := rest) (hlen _ hsigM) hstack hdg
  obtain ⟨v, B, X', hpost, hsteps⟩ := hK m meth c ⟨T.setVm vm₁, locs, cells, slots⟩ { g with stack := rest } (.invokestatic index) mk argsL.toArray X₁ hg hsize hdg hW (X₁.named hnamed) (hpre vm₁ X₁.warmed)
  exact ⟨v, vm₁, B, X₁.warmed, X', hpost, fun target h => hstep₁ _ fun acts => by rw [doInvoke_state]; exact hsteps.trans h⟩
theorem vx_runSW {y : MethodName} {bytes cc : ByteArray} {maxL nL mc ms n index : Nat} {ret : Option FieldType} {hh : List (Nat × Nat × Nat × Nat)} {ws : List Cond} {rm : Room} {Pc : Array Value → State → Prop} {Qc : Array Value → State → Outcome → State → Prop} {free : Addr → Prop} {Ts : List Cond} {own : String} {As rest : List Value} {g : JFrame}
    (S : CallFix p m c cc nL s args Ts own) (hM : Met l y ws rm Pc Qc mc ms free) (cw : vx_CSW R s args own index y bytes maxL ret hh ws rm mc ms n) (hp : PreS s H Pc As)
    (hg : g.method = m) (hn : As.length = n) (hsize : g.locals.size = nL) (hstack : g.stack = As.reverse ++ rest) (hW : 2 * g.monitorRoom + (rest.map fun v => v.category).sum ≤ 8) (hdg : decode cc g.pc = .ok (.invokestatic index, 3)) (hf : cells + mc ≤ R.cells ∧ slots + ms ≤ R.slots) :
    va_Run p l e R s m args below meth c H locs cells slots mc ms g rest (Qc As.toArray) (free) := by
  obtain ⟨⟨hrc, hrs, hfr, hlo, hws, hcw⟩, hcode, hini, hy, hlen, hl, hstt⟩ := cw
  have hK : Back l R p e below s args y 3 8 (PreOf R mc ms Pc) (PostOf Qc mc ms free) := va_backW (hh := hh) (bytes := bytes) (maxL := maxL) (ret := ret) hM hp.1 hrc hrs hfr hlo hws hcw (fun a' U hW => word_at hW (Or.inl (by first | rfl | simp [Cond.onTables, Cond.keeps, Cond.steady])) hini)
  obtain ⟨hx, hb, hml, ho, -⟩ := S
  intro T hT X
  obtain ⟨v, vm₁, ⟨U', l2, c2, s2⟩, hW₁, X', ⟨g', mk, t, L, e1, e2, hq, h1, hL, h2, h3⟩, st⟩ := vx_callSW X hx (hh := hh) (bytes := bytes) (maxL := maxL) (ret := ret) ho hl hstt hini hcode hy hK hg (hsize.trans hml.symm) (argsL := As) (rest := rest) (fun sig h => hn.trans (hlen sig h)) hstack hW (by rw [hb]; exact hdg)
    (fun vm₁ hW₁ => ⟨hf.1, hf.2, hp.2 (T.setVm vm₁) hT hW₁⟩)
  dsimp only [Pt.U, Pt.locs, Pt.cells, Pt.slots] at X' e1 e2 h1 h2 h3 st
  subst h1; subst h2; subst h3
  exact ⟨v, (T.setVm vm₁).calling g' mk As.toArray, t, U', L, hT, X', hL, e1, e2, hq, st⟩
/-- not caught here, past rows that name other classes: it goes on to the caller -/
theorem vx_outP {p : Program} {l : Launch} {e : Env} {R : Room} {s : State} {m : MethodId} {args : Array Value} {below : List Frame} {meth : Method} {c : Code} {H : Heap} {locs : List Loc} {cells slots : Nat} {free : Addr → Prop} {ls : Array Slot} {rest : List Value} {Qc : Array Value → State → Outcome → State → Prop} {XC : String → State → State → Prop}
    {pc : Nat} {own E : String} {ce : Cell} {q : Addr} {mc ms : Nat} (hown : s.vm.findClass own = some m.cls) (hlocks : meth.locks = false)
    (hpass : ∀ z ∈ c.exceptionTable.toList, covers z pc = false ∨ (z.catchType ≠ 0 ∧ ∃ nm : String, (Cond.classLink own z.catchType nm).before args s = true ∧ va_Nc E nm s)) (hcell : H[q]? = some ce) (hv : ce.vm = .none) (hcl : s.vm.findClass E = some ce.cls)
    (hx : ∀ t : State, t.heap = H → s.vm.Alike t.vm → XC E s t) (hf : ∀ z ∈ locs, free z.base) (hc : cells ≤ mc) (hs : slots ≤ ms) :
    vx_W p l e R s m args below meth c H locs cells slots (vx_MQ below Qc XC args s mc ms free) (F0 m pc ls rest) q := by
  intro T hT X
  have hpl : e.platform.magicAccessors = ({} : Platform).magicAccessors := by rw [X.admits.platform]
  obtain ⟨vm', hW', X', st⟩ := X.outThrough hlocks q (g := F0 m pc ls rest) rfl rfl rfl (cell := ce) (by rw [hT]; exact hcell) (by rw [hv]; rfl)
    (by obtain ⟨k9, h9, -⟩ := Vm.findClass_spec hcl; exact ⟨k9, h9⟩) (fun z hz => by
      rcases hpass z hz with h | ⟨hz0, nm, hl1, hn1⟩
      · exact Or.inl h
      · obtain ⟨c6, hc6, hcl6⟩ := Cond.classLink_spec hown hl1 e.platform hpl
        obtain ⟨a8, b8, h1, h2, h3⟩ := hn1
        cases Option.some.inj (h1.symm.trans hcl)
        cases Option.some.inj (h2.symm.trans hc6)
        exact Or.inr ⟨hz0, _, hcl6, h3⟩)
  obtain ⟨g₀, hfr⟩ := X'.frames_eq
  have hcell9 : ((T.setVm vm').setFrames (.throwing q :: below)).heap[q]? = some ce := by
    show T.heap[q]? = some ce
    rw [hT]; exact hcell
  have hend : Ended ((T.setVm vm').setFrames (.throwing q :: below)) below (.threw q) := State.frames_setFrames _ (State.cur_lt_of_frames hfr)
  refine ⟨(T.setVm vm').setFrames (.throwing q :: below), ?_, .threw q, X'.here.running, hend, Or.inr ⟨q, rfl, E, ce, locs, hx _ hT (X'.ends _).1.alike, hcell9, hv, hcl, (X'.ends _).1, (X'.ends _).2.mono hc hs, hf⟩⟩
  rw [X.pushThrowing_eq]
  exact st
/-- a thing of a world lies in the heap -/
theorem vx_lt {D : va_G} {cl : List vw_C} {ws : va_W} {H1 : Heap} (h : va_P D cl ws H1) {k : Nat} {q : Nat × va_E} (hk : ws[k]? = some q) : q.1 < H1.size := (h k q hk).lt
end VXS
/-! ===== END ===== -/
/-! ===== BEGIN methods with a table of their own: called by a name, returning or throwing ===== -/
section VXH
/-! vx_backW, vx_callVX, vx_callSX, vx_callVW, vx_runVW, vx_runVX, vx_runSX, vx_ofWH follow the same proofs as their sisters above (Free/Laws.lean, Shelf42/LK1.lean); vx_outP calls Shelf42/NT130.lean (outThrough). -/
section
variable {l : Launch} {R : Room} {p : Program} {e : Env} {below : List Frame} {s : State} {sargs : Array Value} {y : MethodName} {len W9 : Nat}
theorem vx_backW {ws : List Cond} {rm : Room} {Pc : Array Value → State → Prop} {Qc : Array Value → State → Outcome → State → Prop} {XC : String → State → State → Prop} {mc ms : Nat} {free : Addr → Prop} {bytes : ByteArray} {maxL : Nat} {ret : Option FieldType} {hh : List (Nat × Nat × Nat × Nat)}
    (hM : vx_Met l y ws rm Pc Qc XC mc ms free) (hblind : FrameBlind Pc) (hrc : rm.cells = mc) (hrs : rm.slots = ms)
    (hframes : rm.frames + 1 ≤ R.frames) (hlocals : W9 + (maxL + 11) + rm.locals ≤ R.locals)
    (hws : ∀ w ∈ ws, ∀ a' U, s.WarmedH U.vm → w.before a' U = true) (hcode : Cond.codeWith y bytes maxL ret hh ∈ ws) (hinit : ∀ a' U, s.WarmedH U.vm → (Cond.initialized y.cls).before a' U = true) :
    vx_Back l R p e below s sargs y len W9 (PreOf R mc ms Pc) (PostOf Qc mc ms free) (vx_Post XC mc ms free) := by
  intro m meth c A g ig mk a X hg hsize hdg hW hn hp
  have h1 : (headSpec ws rm).pre.before a A.U = true := atoms_intro fun w hw => hws w hw _ _ X.warmed
  have h2 : (Cond.codeWith y bytes maxL ret hh).before a A.U = true := hws _ hcode _ _ X.warmed
  have h3 : (Cond.initialized y.cls).before a A.U = true := hinit _ _ X.warmed
  have h4 : A.cells + (headSpec ws rm).room.cells ≤ R.cells := by rw [show (headSpec ws rm).room.cells = mc from hrc]; exact hp.1
  have h5 : A.slots + (headSpec ws rm).room.slots ≤ R.slots := by rw [show (headSpec ws rm).room.slots = ms from hrs]; exact hp.2.1
  have hPc : Pc a (A.U.calling g mk a) := hblind _ _ _ _ hp.2.2
  obtain ⟨U, Ls, c0, s0⟩ := A
  dsimp only [Pt.U, Pt.locs, Pt.cells, Pt.slots] at h1 h2 h3 h4 h5 X hn hPc ⊢
  obtain ⟨m9, methY, cY, hn9, hmY, hcY, -, hlY, -⟩ := Cond.codeWith_spec h2
  cases Option.some.inj (hn9.symm.trans hn)
  obtain ⟨kY, hkY, -⟩ := className_of_methodNamed hn
  have hinitY : kY.init = .initialized := Cond.initialized_spec (findClass_of_methodNamed hn) hkY h3
  have h : At U g.method c below := by rw [hg]; exact X.here
  have hlocals9 : W9 + (maxL + 11) + (headSpec ws rm).room.locals ≤ R.locals := hlocals
  have happ : (headSpec ws rm).appliesLoose y e.platform (U.calling g mk a) = true :=
    Spec.appliesLoose_calling (g := g) h hdg hn hkY hinitY
      (X.room_calling (g := g) (R' := (headSpec ws rm).room) hsize hmY hcY hframes (by rw [hlY]; omega) h4 h5) h1
  obtain ⟨mid, hmid⟩ := h.above
  have hfr : (U.setTop g).frames = (.java g :: mid) ++ below := by rw [State.frames_setTop' g h.top, hmid]; rfl
  obtain ⟨o, s₂, hsteps, -, hend, hq⟩ := Steps.callFree hM p X.admits X.cas X.clock (acts := []) hfr happ hPc trivial
  have hq' : vx_Q Qc XC mc ms free a (U.calling g mk a) o s₂ := hq
  rw [State.frames_setTop' g h.top] at hend
  obtain ⟨g₀, hg0⟩ := Option.isSome_iff_exists.mp h.top
  obtain ⟨r, hr⟩ := State.topJava?_eq_some.mp hg0
  have hr' : (({ U with heap := s₂.heap, slotsUsed := s₂.slotsUsed } : State).setVm s₂.vm).frames = .java g₀ :: r := hr
  rcases hq' with ⟨hqc, L, hfe, hL⟩ | ⟨q, rfl, E, ce, L, hx, hce, hcv, hcl, hW₂, hsm, hL⟩
  · obtain ⟨⟨v, rfl⟩, hW₂, e2, q2, q3, q4, q5, q6⟩ := id hfe
    have e3 : s₂ = ({ (U.calling g mk a).setFrames s₂.frames with heap := s₂.heap, slotsUsed := s₂.slotsUsed } : State).setVm s₂.vm := by
      have : s₂ = ({ s₂ with vm := (U.calling g mk a).vm } : State).setVm s₂.vm := rfl
      rw [e2] at this
      exact this
    obtain ⟨c₂, i₂, len₂, hc₂, hd₂, hf₂⟩ := hend
    have hW' : U.WarmedH s₂.vm := hW₂
    have hcc : c₂ = c := by
      have h1 : s₂.code? g.method = U.code? g.method := by
        rw [State.code?_eq, State.code?_eq, hW'.alike.method?]
      exact Option.some.inj (hc₂.symm.trans (h1.trans h.code))
    subst hcc
    have hlen : len₂ = len := by rw [hdg] at hd₂; cases hd₂; rfl
    subst hlen
    have hs₂ : s₂ = (({ U with heap := s₂.heap, slotsUsed := s₂.slotsUsed } : State).setVm s₂.vm).setTop { g with pc := g.pc + len₂, stack := v.toList ++ g.stack } := by
      refine e3.trans ?_
      rw [hf₂, State.calling_eq h.top, State.setFrames_setFrames, State.setTop_of_frames _ hr', hr]
      rfl
    have hsame : U.sameButNew ({ U with heap := s₂.heap, slotsUsed := s₂.slotsUsed } : State) L mc ms := by
      refine ⟨?_, q2, q3, q4, q5, q6⟩
      obtain ⟨t, ht, -⟩ := State.frames_cons hr
      show ({ U with heap := s₂.heap, slotsUsed := s₂.slotsUsed } : State) = { U.setFrames U.frames with heap := s₂.heap, slotsUsed := s₂.slotsUsed }
      rw [State.setFrames_self ht]
    subst hg
    refine Or.inl ⟨v, ⟨(({ U with heap := s₂.heap, slotsUsed := s₂.slotsUsed } : State).setVm s₂.vm), Ls ++ L, c0 + mc, s0 + ms⟩,
      ⟨X.admits, X.cas, X.clock, X.frames, X.room, X.hears, X.method, X.code, (X.here.setHeapUsed s₂.heap s₂.slotsUsed).setVm hW'.alike, X.tail, State.WarmedH.trans X.warmed hW', X.limits, X.bytes, X.same.trans (hsame.setVm s.vm)⟩,
      ⟨g, mk, s₂, L, rfl, rfl, hqc, rfl, hL, rfl, rfl⟩, ?_⟩
    show Steps p.tables e below _ ((({ U with heap := s₂.heap, slotsUsed := s₂.slotsUsed } : State).setVm s₂.vm).setTop { g with pc := g.pc + len₂, stack := v.toList ++ g.stack })
    rw [← hs₂]
    exact hsteps
  · obtain ⟨e2, q2, q3, q4, q5, q6⟩ := id hsm
    have e3 : s₂ = ({ (U.calling g mk a).setFrames s₂.frames with heap := s₂.heap, slotsUsed := s₂.slotsUsed } : State).setVm s₂.vm := by
      have : s₂ = ({ s₂ with vm := (U.calling g mk a).vm } : State).setVm s₂.vm := rfl
      rw [e2] at this
      exact this
    have hf₂ : s₂.frames = .throwing q :: .java g :: U.frames.tail := hend
    have hW' : U.WarmedH s₂.vm := hW₂
    have hs₂ : s₂ = ((({ U with heap := s₂.heap, slotsUsed := s₂.slotsUsed } : State).setVm s₂.vm).setTop g).pushFrame (.throwing q) := by
      refine e3.trans ?_
      rw [hf₂, State.calling_eq h.top, State.setFrames_setFrames, State.pushFrame, State.frames_setTop _ hr', State.setTop_of_frames _ hr', State.setFrames_setFrames, hr]
      rfl
    have hsame : U.sameButNew ({ U with heap := s₂.heap, slotsUsed := s₂.slotsUsed } : State) L mc ms := by
      refine ⟨?_, q2, q3, q4, q5, q6⟩
      obtain ⟨t, ht, -⟩ := State.frames_cons hr
      show ({ U with heap := s₂.heap, slotsUsed := s₂.slotsUsed } : State) = { U.setFrames U.frames with heap := s₂.heap, slotsUsed := s₂.slotsUsed }
      rw [State.setFrames_self ht]
    subst hg
    refine Or.inr ⟨q, ⟨(({ U with heap := s₂.heap, slotsUsed := s₂.slotsUsed } : State).setVm s₂.vm), Ls ++ L, c0 + mc, s0 + ms⟩,
      ⟨X.admits, X.cas, X.clock, X.frames, X.room, X.hears, X.method, X.code, (X.here.setHeapUsed s₂.heap s₂.slotsUsed).setVm hW'.alike, X.tail, State.WarmedH.trans X.warmed hW', X.limits, X.bytes, X.same.trans (hsame.setVm s.vm)⟩,
      ⟨g, mk, s₂, L, E, ce, rfl, rfl, hx, hce, hcv, hcl, rfl, hL, rfl, rfl⟩, ?_⟩
    show Steps p.tables e below _ (((({ U with heap := s₂.heap, slotsUsed := s₂.slotsUsed } : State).setVm s₂.vm).setTop g).pushFrame (.throwing q))
    rw [← hs₂]
    exact hsteps
end
variable {p : Program} {l : Launch} {e : Env} {R : Room} {s : State} {m : MethodId} {args : Array Value} {below : List Frame} {meth : Method} {c : Code} {T : State} {H : Heap} {locs : List Loc} {cells slots : Nat}
theorem vx_callVX (X : Stand p l e R s m args below meth c T locs cells slots) (hexec : p.tables.exec = Jvm.exec) {own C : String} {index : Nat} {y : MethodName} {bytes : ByteArray} {maxL : Nat} {ret : Option FieldType} {hh : List (Nat × Nat × Nat × Nat)}
    (hown : s.vm.findClass own = some m.cls) (hlink : (Cond.methodLink own index y).before args s = true) (hinst : (Cond.instanceMethod y).before args s = true) (hsel : (Cond.selects C y y).before args s = true)
    (hcode : (Cond.codeWith y bytes maxL ret hh).before args s = true) (hy : y.cls ≠ "java/lang/invoke/MethodHandle" ∧ y.cls ≠ "java/lang/invoke/VarHandle")
    {W9 : Nat} {Pre : Pt → Array Value → Prop} {Post : Pt → Array Value → Option Value → Pt → Prop} {PostX : Pt → Array Value → Addr → Pt → Prop} (hK : vx_Back l R p e below s args y 3 W9 Pre Post PostX)
    {b : Addr} {cellB : Cell} (hcell : T.heap[b]? = some cellB) (hobj : cellB.vm.isStatics = false) (hcls : s.vm.findClass C = some cellB.cls)
    {g : JFrame} (hg : g.method = m) (hsize : g.locals.size = c.maxLocals) {argsL rest : List Value} (hlen : ∀ sig, parseMethodDescriptor y.desc = some sig → argsL.length = sig.parameters.length)
    (hstack : g.stack = argsL.reverse ++ .ref b :: rest) (hW : 2 * g.monitorRoom + (rest.map fun v => v.category).sum ≤ W9) (hdg : decode c.code g.pc = .ok (.invokevirtual index, 3))
    (hpre : ∀ vm₁, s.WarmedH vm₁ → Pre ⟨T.setVm vm₁, locs, cells, slots⟩ (Value.ref b :: argsL).toArray) :
    (∃ (v : Option Value) (vm₁ : Vm) (B : Pt), s.WarmedH vm₁ ∧ Stand p l e R s m args below meth c B.U B.locs B.cells B.slots ∧ Post ⟨T.setVm vm₁, locs, cells, slots⟩ (Value.ref b :: argsL).toArray v B ∧
      ∀ target, Steps p.tables e below (B.U.setTop { g with pc := g.pc + 3, stack := v.toList ++ rest }) target → Steps p.tables e below (T.setTop g) target) ∨
    (∃ (q : Addr) (vm₁ : Vm) (B : Pt), s.WarmedH vm₁ ∧ Stand p l e R s m args below meth c B.U B.locs B.cells B.slots ∧ PostX ⟨T.setVm vm₁, locs, cells, slots⟩ (Value.ref b :: argsL).toArray q B ∧
      Steps p.tables e below (T.setTop g) ((B.U.setTop { g with stack := rest }).pushFrame (.throwing q))) := by
  obtain ⟨mk, methM, hnamed, hmethM, hstM, habM⟩ := Cond.instanceMethod_spec hinst
  obtain ⟨m8, methM', cM, hn8, hmethM', -, -, -, -, -, -, hsigM⟩ := Cond.codeWith_spec hcode
  cases Option.some.inj (hn8.symm.trans hnamed)
  cases hmethM.symm.trans hmethM'
  obtain ⟨c2, r2, m2, q1, q2, q3, q4, kP, hkP, hkPi⟩ := Cond.selects_spec hsel
  cases hcls.symm.trans q1
  cases (State.methodFound?_of_named hnamed hy).symm.trans q2
  cases hnamed.symm.trans q3
  have hselP : selectMethod e.platform s.vm cellB.cls mk = .method mk := by rw [Launch.admits_selectMethod X.admits]; exact q4
  obtain ⟨vm₁, X₁, hstep₁⟩ := X.invokevirtual hexec hown hlink hnamed hmethM hstM hkP hkPi hy (a := b) (cell := cellB) hcell
    (fun z h => by rw [h] at hobj; cases hobj) hselP hmethM habM hkP hkPi (g := g) hg (argsL := argsL) (rest := rest) (hlen _ hsigM) hstack hdg
  rcases hK m meth c ⟨T.setVm vm₁, locs, cells, slots⟩ { g with stack := rest } (.invokevirtual index) mk (Value.ref b :: argsL).toArray X₁ hg hsize hdg hW (X₁.named hnamed) (hpre vm₁ X₁.warmed) with ⟨v, B, X', hpost, hsteps⟩ | ⟨q, B, X', hpost, hsteps⟩
  · exact Or.inl ⟨v, vm₁, B, X₁.warmed, X', hpost, fun target h => hstep₁ _ fun acts => by rw [doInvoke_state]; exact hsteps.trans h⟩
  · exact Or.inr ⟨q, vm₁, B, X₁.warmed, X', hpost, hstep₁ _ fun acts => by rw [doInvoke_state]; exact hsteps⟩
theorem vx_callSX (X : Stand p l e R s m args below meth c T locs cells slots) (hexec : p.tables.exec = Jvm.exec) {own : String} {index : Nat} {y : MethodName} {bytes : ByteArray} {maxL : Nat} {ret : Option FieldType} {hh : List (Nat × Nat × Nat × Nat)}
    (hown : s.vm.findClass own = some m.cls) (hlink : (Cond.methodLink own index y).before args s = true) (hstat : (Cond.static y).before args s = true) (hinit : (Cond.initialized y.cls).before args s = true)
    (hcode : (Cond.codeWith y bytes maxL ret hh).before args s = true) (hy : y.cls ≠ "java/lang/invoke/MethodHandle" ∧ y.cls ≠ "java/lang/invoke/VarHandle")
    {W9 : Nat} {Pre : Pt → Array Value → Prop} {Post : Pt → Array Value → Option Value → Pt → Prop} {PostX : Pt → Array Value → Addr → Pt → Prop} (hK : vx_Back l R p e below s args y 3 W9 Pre Post PostX)
    {g : JFrame} (hg : g.method = m) (hsize : g.locals.size = c.maxLocals) {argsL rest : List Value} (hlen : ∀ sig, parseMethodDescriptor y.desc = some sig → argsL.length = sig.parameters.length)
    (hstack : g.stack = argsL.reverse ++ rest) (hW : 2 * g.monitorRoom + (rest.map fun v => v.category).sum ≤ W9) (hdg : decode c.code g.pc = .ok (.invokestatic index, 3))
    (hpre : ∀ vm₁, s.WarmedH vm₁ → Pre ⟨T.setVm vm₁, locs, cells, slots⟩ argsL.toArray) :
    (∃ (v : Option Value) (vm₁ : Vm) (B : Pt), s.WarmedH vm₁ ∧ Stand p l e R s m args below meth c B.U B.locs B.cells B.slots ∧ Post ⟨T.setVm vm₁, locs, cells, slots⟩ argsL.toArray v B ∧
      ∀ target, Steps p.tables e below (B.U.setTop { g with pc := g.pc + 3, stack := v.toList ++ rest }) target → Steps p.tables e below (T.setTop g) target) ∨
    (∃ (q : Addr) (vm₁ : Vm) (B : Pt), s.WarmedH vm₁ ∧ Stand p l e R s m args below meth c B.U B.locs B.cells B.slots ∧ PostX ⟨T.setVm vm₁, locs, cells, slots⟩ argsL.toArray q B ∧
      Steps p.tables e below (T.setTop g) ((B.U.setTop { g with stack := rest }).pushFrame (.throwing q))) := by
  obtain ⟨mk, methM, cM, hnamed, hmethM, -, -, -, -, -, -, hsigM⟩ := Cond.codeWith_spec hcode
  have hstatic : methM.isStatic = true := Cond.static_spec hnamed hmethM hstat
  obtain ⟨kP, hkP, -⟩ := className_of_methodNamed hnamed
  have hinitP : kP.init = .initialized := Cond.initialized_spec (findClass_of_methodNamed hnamed) hkP hinit
  obtain ⟨vm₁, X₁, hstep₁⟩ := X.invokestatic hexec hown hlink hnamed hmethM hstatic hkP hinitP hy (g := g) hg (argsL := argsL) (rest := rest) (hlen _ hsigM) hstack hdg
  rcases hK m meth c ⟨T.setVm vm₁, locs, cells, slots⟩ { g with stack := rest } (.invokestatic index) mk argsL.toArray X₁ hg hsize hdg hW (X₁.named hnamed) (hpre vm₁ X₁.warmed) with ⟨v, B, X', hpost, hsteps⟩ | ⟨q, B, X', hpost, hsteps⟩
  · exact Or.inl ⟨v, vm₁, B, X₁.warmed, X', hpost, fun target h => hstep₁ _ fun acts => by rw [doInvoke_state]; exact hsteps.trans h⟩
  · exact Or.inr ⟨q, vm₁, B, X₁.warmed, X', hpost, hstep₁ _ fun acts => by rw [doInvoke_state]; exact hsteps⟩
theorem vx_callVW (X : Stand p l e R s m args below meth c T locs cells slots) (hexec : p.tables.exec = Jvm.exec) {own C : String} {index : Nat} {y : MethodName} {bytes : ByteArray} {maxL : Nat} {ret : Option FieldType} {hh : List (Nat × Nat × Nat × Nat)}
    (hown : s.vm.findClass own = some m.cls) (hlink : (Cond.methodLink own index y).before args s = true) (hinst : (Cond.instanceMethod y).before args s = true) (hsel : (Cond.selects C y y).before args s = true)
    (hcode : (Cond.codeWith y bytes maxL ret hh).before args s = true) (hy : y.cls ≠ "java/lang/invoke/MethodHandle" ∧ y.cls ≠ "java/lang/invoke/VarHandle")
    {W9 : Nat} {Pre : Pt → Array Value → Prop} {Post : Pt → Array Value → Option Value → Pt → Prop} (hK : Back l R p e below s args y 3 W9 Pre Post)
    {b : Addr} {cellB : Cell} (hcell : T.heap[b]? = some cellB) (hobj : cellB.vm.isStatics = false) (hcls : s.vm.findClass C = some cellB.cls)
    {g : JFrame} (hg : g.method = m) (hsize : g.locals.size = c.maxLocals) {argsL rest : List Value} (hlen : ∀ sig, parseMethodDescriptor y.desc = some sig → argsL.length = sig.parameters.length)
    (hstack : g.stack = argsL.reverse ++ .ref b :: rest) (hW : 2 * g.monitorRoom + (rest.map fun v => v.category).sum ≤ W9) (hdg : decode c.code g.pc = .ok (.invokevirtual index, 3))
    (hpre : ∀ vm₁, s.WarmedH vm₁ → Pre ⟨T.setVm vm₁, locs, cells, slots⟩ (Value.ref b :: argsL).toArray) :
    ∃ (v : Option Value) (vm₁ : Vm) (B : Pt), s.WarmedH vm₁ ∧ Stand p l e R s m args below meth c B.U B.locs B.cells B.slots ∧ Post ⟨T.setVm vm₁, locs, cells, slots⟩ (Value.ref b :: argsL).toArray v B ∧
      ∀ target, Steps p.tables e below (B.U.setTop { g with pc := g.pc + 3, stack := v.toList ++ rest }) target → Steps p.tables e below (T.setTop g) target := by
  obtain ⟨mk, methM, hnamed, hmethM, hstM, habM⟩ := Cond.instanceMethod_spec hinst
  obtain ⟨m8, methM', cM, hn8, hmethM', -, -, -, -, -, -, hsigM⟩ := Cond.codeWith_spec hcode
  cases Option.some.inj (hn8.symm.trans hnamed)
  cases hmethM.symm.trans hmethM'
  obtain ⟨c2, r2, m2, q1, q2, q3, q4, kP, hkP, hkPi⟩ := Cond.selects_spec hsel
  cases hcls.symm.trans q1
  cases (State.methodFound?_of_named hnamed hy).symm.trans q2
  cases hnamed.symm.trans q3
  have hselP : selectMethod e.platform s.vm cellB.cls mk = .method mk := by rw [Launch.admits_selectMethod X.admits]; exact q4
  obtain ⟨vm₁, X₁, hstep₁⟩ := X.invokevirtual hexec hown hlink hnamed hmethM hstM hkP hkPi hy (a := b) (cell := cellB) hcell
    (fun z h => by rw [h] at hobj; cases hobj) hselP hmethM habM hkP hkPi (g := g) hg (argsL := argsL) (rest := rest) (hlen _ hsigM) hstack hdg
  obtain ⟨v, B, X', hpost, hsteps⟩ := hK m meth c ⟨T.setVm vm₁, locs, cells, slots⟩ { g with stack := rest } (.invokevirtual index) mk (Value.ref b :: argsL).toArray X₁ hg hsize hdg hW (X₁.named hnamed) (hpre vm₁ X₁.warmed)
  exact ⟨v, vm₁, B, X₁.warmed, X', hpost, fun target h => hstep₁ _ fun acts => by rw [doInvoke_state]; exact hsteps.trans h⟩
abbrev vx_CVW (R : Room) (s : State) (args : Array Value) (own C : String) (index : Nat) (y : MethodName) (bytes : ByteArray) (maxL : Nat) (ret : Option FieldType) (hh : List (Nat × Nat × Nat × Nat)) (ws : List Cond) (rm : Room) (mc ms n : Nat) : Prop :=
  (rm.cells = mc ∧ rm.slots = ms ∧ rm.frames + 1 ≤ R.frames ∧ 8 + (maxL + 11) + rm.locals ≤ R.locals ∧ (∀ w ∈ ws, ∀ (a' : Array Value) (U : State), s.WarmedH U.vm → w.before a' U = true) ∧ Cond.codeWith y bytes maxL ret hh ∈ ws) ∧
  (Cond.codeWith y bytes maxL ret hh).before args s = true ∧ (Cond.initialized y.cls).before args s = true ∧ (y.cls ≠ "java/lang/invoke/MethodHandle" ∧ y.cls ≠ "java/lang/invoke/VarHandle") ∧
  (∀ sig, parseMethodDescriptor y.desc = some sig → n = sig.parameters.length) ∧ (Cond.methodLink own index y).before args s = true ∧ (Cond.instanceMethod y).before args s = true ∧ (Cond.selects C y y).before args s = true
theorem vx_cwVW {own C : String} {index maxL mc ms : Nat} {y : MethodName} {bytes : ByteArray} {ret : Option FieldType} {hh : List (Nat × Nat × Nat × Nat)} {Ts ws ws' : List Cond} {rm : Room} (n : Nat) (ht : ∀ w ∈ Ts, w.before args s = true) (hT : GoodIn Ts (wsV own index C y ws)) (hw : ws = Cond.codeWith y bytes maxL ret hh :: ws') (hrc : rm.cells = mc) (hrs : rm.slots = ms)
    (hd : y.cls = C ∧ y.cls ≠ "java/lang/invoke/MethodHandle" ∧ y.cls ≠ "java/lang/invoke/VarHandle" ∧ (parseMethodDescriptor y.desc).map (fun d => d.parameters.length) = some n) (hR : rm.frames + 1 ≤ R.frames ∧ 8 + (maxL + 11) + rm.locals ≤ R.locals) :
    vx_CVW R s args own C index y bytes maxL ret hh ws rm mc ms n := by
  obtain ⟨hC, hd⟩ := hd
  subst hC
  have ok : ∀ w ∈ wsV own index y.cls y ws, w.before args s = true := fun w h => ht w (hT w h).1
  have hG : GoodIn Ts ws := fun w h => hT w (by unfold wsV; exact List.mem_append_right _ h)
  have hc : Cond.codeWith y bytes maxL ret hh ∈ ws := by rw [hw]; exact List.mem_cons_self
  refine ⟨⟨hrc, hrs, hR.1, hR.2, pay_in ht hG, hc⟩, ht _ (hG _ hc).1, ok _ (by simp [wsV]), ⟨hd.1, hd.2.1⟩, fun sig h => ?_, ok _ (by simp [wsV]), ok _ (by simp [wsV]), ok _ (by simp [wsV])⟩
  have h2 := hd.2.2
  rw [h] at h2
  exact (Option.some.inj h2).symm
theorem vx_runVW {y : MethodName} {bytes cc : ByteArray} {maxL nL mc ms n index : Nat} {ret : Option FieldType} {hh : List (Nat × Nat × Nat × Nat)} {ws : List Cond} {rm : Room} {Pc : Array Value → State → Prop} {Qc : Array Value → State → Outcome → State → Prop} {free : Addr → Prop} {Ts : List Cond} {own C : String} {b : Addr} {As rest : List Value} {g : JFrame}
    (S : CallFix p m c cc nL s args Ts own) (hM : Met l y ws rm Pc Qc mc ms free) (cw : vx_CVW R s args own C index y bytes maxL ret hh ws rm mc ms n) (hp : PreV s H C b Pc As)
    (hg : g.method = m) (hn : As.length = n) (hsize : g.locals.size = nL) (hstack : g.stack = As.reverse ++ .ref b :: rest) (hW : 2 * g.monitorRoom + (rest.map fun v => v.category).sum ≤ 8) (hdg : decode cc g.pc = .ok (.invokevirtual index, 3)) (hf : cells + mc ≤ R.cells ∧ slots + ms ≤ R.slots) :
    va_Run p l e R s m args below meth c H locs cells slots mc ms g rest (Qc (Value.ref b :: As).toArray) free := by
  obtain ⟨⟨hrc, hrs, hfr, hlo, hws, hcw⟩, hcode, hini, hy, hlen, hl, hin, hse⟩ := cw
  have hK : Back l R p e below s args y 3 8 (PreOf R mc ms Pc) (PostOf Qc mc ms free) := va_backW (hh := hh) (bytes := bytes) (maxL := maxL) (ret := ret) hM hp.1 hrc hrs hfr hlo hws hcw (fun a' U hW => word_at hW (Or.inl (by first | rfl | simp [Cond.onTables, Cond.keeps, Cond.steady])) hini)
  obtain ⟨hx, hb, hml, ho, -⟩ := S
  obtain ⟨-, ⟨cellB, hcB, hoB, hclB⟩, hPc⟩ := hp
  intro T hT X
  obtain ⟨v, vm₁, ⟨U', l2, c2, s2⟩, hW₁, X', ⟨g', mk, t, L, e1, e2, hq, h1, hL, h2, h3⟩, st⟩ := vx_callVW X hx (C := C) (hh := hh) (bytes := bytes) (maxL := maxL) (ret := ret) ho hl hin hse hcode hy hK (by rw [hT]; exact hcB) hoB hclB hg (hsize.trans hml.symm) (argsL := As) (rest := rest) (fun sig h => hn.trans (hlen sig h)) hstack hW (by rw [hb]; exact hdg)
    (fun vm₁ hW₁ => ⟨hf.1, hf.2, hPc (T.setVm vm₁) hT hW₁⟩)
  dsimp only [Pt.U, Pt.locs, Pt.cells, Pt.slots] at X' e1 e2 h1 h2 h3 st
  subst h1; subst h2; subst h3
  exact ⟨v, (T.setVm vm₁).calling g' mk (Value.ref b :: As).toArray, t, U', L, hT, X', hL, e1, e2, hq, st⟩
section
variable {y : MethodName} {bytes cc : ByteArray} {maxL nL mc ms n index : Nat} {ret : Option FieldType} {ws : List Cond} {rm : Room} {Pc : Array Value → State → Prop} {Qc : Array Value → State → Outcome → State → Prop} {XC : String → State → State → Prop} {free : Addr → Prop} {Ts : List Cond} {own C : String} {b : Addr} {As rest : List Value} {g : JFrame}
theorem vx_runVX {hh : List (Nat × Nat × Nat × Nat)} (S : CallFix p m c cc nL s args Ts own) (hM : vx_Met l y ws rm Pc Qc XC mc ms free) (cw : vx_CVW R s args own C index y bytes maxL ret hh ws rm mc ms n) (hp : PreV s H C b Pc As)
    (hg : g.method = m) (hn : As.length = n) (hsize : g.locals.size = nL) (hstack : g.stack = As.reverse ++ .ref b :: rest) (hW : 2 * g.monitorRoom + (rest.map fun v => v.category).sum ≤ 8) (hdg : decode cc g.pc = .ok (.invokevirtual index, 3)) (hf : cells + mc ≤ R.cells ∧ slots + ms ≤ R.slots) :
    vx_Run p l e R s m args below meth c H locs cells slots mc ms g rest (Qc (Value.ref b :: As).toArray) XC free := by
  obtain ⟨⟨hrc, hrs, hfr, hlo, hws, hcw⟩, hcode, hini, hy, hlen, hl, hin, hse⟩ := cw
  have hK : vx_Back l R p e below s args y 3 8 (PreOf R mc ms Pc) (PostOf Qc mc ms free) (vx_Post XC mc ms free) := vx_backW (hh := hh) (bytes := bytes) (maxL := maxL) (ret := ret) hM hp.1 hrc hrs hfr hlo hws hcw (fun a' U hW => word_at hW (Or.inl (by first | rfl | simp [Cond.onTables, Cond.keeps, Cond.steady])) hini)
  obtain ⟨hx, hb, hml, ho, -⟩ := S
  obtain ⟨-, ⟨cellB, hcB, hoB, hclB⟩, hPc⟩ := hp
  intro T hT X
  rcases vx_callVX X hx (C := C) (hh := hh) (bytes := bytes) (maxL := maxL) (ret := ret) ho hl hin hse hcode hy hK (by rw [hT]; exact hcB) hoB hclB hg (hsize.trans hml.symm) (argsL := As) (rest := rest) (fun sig h => hn.trans (hlen sig h)) hstack hW (by rw [hb]; exact hdg)
    (fun vm₁ hW₁ => ⟨hf.1, hf.2, hPc (T.setVm vm₁) hT hW₁⟩) with ⟨v, vm₁, ⟨U', l2, c2, s2⟩, hW₁, X', ⟨g', mk, t, L, e1, e2, hq, h1, hL, h2, h3⟩, st⟩ | ⟨q, vm₁, ⟨U', l2, c2, s2⟩, hW₁, X', ⟨g', mk, t, L, E, ce, e1, e2, hq, hce, hcv, hcl, h1, hL, h2, h3⟩, st⟩
  · dsimp only [Pt.U, Pt.locs, Pt.cells, Pt.slots] at X' e1 e2 h1 h2 h3 st
    subst h1; subst h2; subst h3
    exact Or.inl ⟨v, (T.setVm vm₁).calling g' mk (Value.ref b :: As).toArray, t, U', L, hT, X', hL, e1, e2, hq, st⟩
  · dsimp only [Pt.U, Pt.locs, Pt.cells, Pt.slots] at X' e1 e2 h1 h2 h3 st hcl
    subst h1; subst h2; subst h3
    exact Or.inr ⟨q, (T.setVm vm₁).calling g' mk (Value.ref b :: As).toArray, t, U', L, E, ce, hT, X', hL, e1, e2, hq, hce, hcv, vx_cls hW₁ hcl, st⟩
theorem vx_runSX {hh : List (Nat × Nat × Nat × Nat)} (S : CallFix p m c cc nL s args Ts own) (hM : vx_Met l y ws rm Pc Qc XC mc ms free) (cw : vx_CSW R s args own index y bytes maxL ret hh ws rm mc ms n) (hp : PreS s H Pc As)
    (hg : g.method = m) (hn : As.length = n) (hsize : g.locals.size = nL) (hstack : g.stack = As.reverse ++ rest) (hW : 2 * g.monitorRoom + (rest.map fun v => v.category).sum ≤ 8) (hdg : decode cc g.pc = .ok (.invokestatic index, 3)) (hf : cells + mc ≤ R.cells ∧ slots + ms ≤ R.slots) :
    vx_Run p l e R s m args below meth c H locs cells slots mc ms g rest (Qc As.toArray) XC free := by
  obtain ⟨⟨hrc, hrs, hfr, hlo, hws, hcw⟩, hcode, hini, hy, hlen, hl, hstt⟩ := cw
  have hK : vx_Back l R p e below s args y 3 8 (PreOf R mc ms Pc) (PostOf Qc mc ms free) (vx_Post XC mc ms free) := vx_backW (hh := hh) (bytes := bytes) (maxL := maxL) (ret := ret) hM hp.1 hrc hrs hfr hlo hws hcw (fun a' U hW => word_at hW (Or.inl (by first | rfl | simp [Cond.onTables, Cond.keeps, Cond.steady])) hini)
  obtain ⟨hx, hb, hml, ho, -⟩ := S
  intro T hT X
  rcases vx_callSX X hx (hh := hh) (bytes := bytes) (maxL := maxL) (ret := ret) ho hl hstt hini hcode hy hK hg (hsize.trans hml.symm) (argsL := As) (rest := rest) (fun sig h => hn.trans (hlen sig h)) hstack hW (by rw [hb]; exact hdg)
    (fun vm₁ hW₁ => ⟨hf.1, hf.2, hp.2 (T.setVm vm₁) hT hW₁⟩) with ⟨v, vm₁, ⟨U', l2, c2, s2⟩, hW₁, X', ⟨g', mk, t, L, e1, e2, hq, h1, hL, h2, h3⟩, st⟩ | ⟨q, vm₁, ⟨U', l2, c2, s2⟩, hW₁, X', ⟨g', mk, t, L, E, ce, e1, e2, hq, hce, hcv, hcl, h1, hL, h2, h3⟩, st⟩
  · dsimp only [Pt.U, Pt.locs, Pt.cells, Pt.slots] at X' e1 e2 h1 h2 h3 st
    subst h1; subst h2; subst h3
    exact Or.inl ⟨v, (T.setVm vm₁).calling g' mk As.toArray, t, U', L, hT, X', hL, e1, e2, hq, st⟩
  · dsimp only [Pt.U, Pt.locs, Pt.cells, Pt.slots] at X' e1 e2 h1 h2 h3 st hcl
    subst h1; subst h2; subst h3
    exact Or.inr ⟨q, (T.setVm vm₁).calling g' mk As.toArray, t, U', L, E, ce, hT, X', hL, e1, e2, hq, hce, hcv, vx_cls hW₁ hcl, st⟩
end
end VXH
theorem vx_ofWH {l : Launch} {y : MethodName} {ws ws' : List Cond} {rm : Room} {Pc : Array Value → State → Prop} {Qc : Array Value → State → Outcome → State → Prop} {XC : String → State → State → Prop} {mc ms : Nat} {free : Addr → Prop} {cc : ByteArray} {maxL : Nat} {ret : Option FieldType} {hh : List (Nat × Nat × Nat × Nat)}
    (hy : plainName y.cls = true) (hw : ws = Cond.codeWith y cc maxL ret hh :: ws')
    (body : ∀ p e s m args below meth c s₁, BodyLoose p l y (headSpec ws rm) cc maxL ret e s m args below meth c s₁ → c.maxLocals = maxL → Pc args s →
      W p l e (headSpec ws rm).room s m args below meth c s.heap [] 0 0 (vx_MQ below Qc XC args s mc ms free) (entryFrame m args maxL)) : vx_Met l y ws rm Pc Qc XC mc ms free := by
  refine MetFree.of_bodyS (code := cc) (maxLocals := maxL) (ret := ret) hy ?_ ?_
  · intro args s m h hn
    obtain ⟨m9, meth, c, hn9, h1, h2, h3, h4, -, h5, h6, -⟩ := Cond.codeWith_spec (atoms_spec (ws := ws) h _ (by rw [hw]; exact List.mem_cons_self))
    cases hn.symm.trans hn9
    exact ⟨meth, c, h1, h2, h3, h4, h5, h6⟩
  · intro p e s m args below meth c s₁ B hml hP _
    have hh0 : s₁.heap = s.heap := by rw [B.state]; rfl
    obtain ⟨t, a1, o, b1, b2, b3⟩ := body p e s m args below meth c s₁ B hml hP s₁ hh0 (Stand.of_body B)
    exact ⟨t, o, a1, b1, b2, b3⟩
/-! ===== END ===== -/

/-! ===== BEGIN what the machine throws by itself, no traces kept ===== -/
section VXM
set_option maxHeartbeats 1000000 in
/-- the machine throws cls with the message text, no traces kept: from its note over the frame g to 'throwing' over the same frame (follows the proofs of Stand.vmThrowsMessage, Shelf/KitTracedVmS.lean, and Stand.throwsMessageColdBareV, StandMessageColdV.lean, without the step out of the frame) -/
theorem vx_vmAt {p : Program} {l : Launch} {e : Env} {R : Room} {s : State} {m₀ : MethodId} {args : Array Value} {below : List Frame} {meth : Method} {c : Code} {W : State} {locs : List Loc} {cells slots : Nat}
    (X : Stand p l e R s m₀ args below meth c W locs cells slots) (hexec : p.tables.exec = Jvm.exec) (htr : e.platform.stackTraces = false) {cls : String} {names : List String} {text : String}
    (hcls : Bundle.fit cls = true) (hnames : ∀ n ∈ names, Bundle.fit n = true) (hsoe : (cls == "java/lang/StackOverflowError") = false) (hoom : (cls == "java/lang/OutOfMemoryError") = false)
    (h : ∀ a ∈ Bundle.messageArmAtoms cls names, a.before args s = true)
    (hlocs : ∀ x ∈ locs, ∀ cell, s.heap[x.base]? = some cell → cell.vm.isStatics = false)
    (htext : (text == notModelled) = false) (hlimit : ¬ (stringBytes (stringToUtf16 text)).size > e.platform.arrayLengthLimit) (hheap : ¬ (stringBytes (stringToUtf16 text)).size * componentBytes .byte > e.platform.maxHeapBytes)
    {g : JFrame} (hg : g.method = m₀) (hsize : g.locals.size = c.maxLocals)
    (hRframes : names.length + 4 < R.frames) (hRlocals : 2 * g.monitorRoom + (g.stack.map fun v => v.category).sum + 10240 ≤ R.locals) (hshort : 13 * names.length + 55 ≤ 10240)
    (hRcells : cells + 3 ≤ R.cells) (hRslots : slots + ((stringBytes (stringToUtf16 text)).size + 4 + 6) ≤ R.slots) (hlocks : meth.locks = false) :
    ∃ (S : State) (q : Addr) (ce : Cell), (∀ target, Steps p.tables e below ((S.setTop g).pushFrame (.throwing q)) target → Steps p.tables e below ((W.setTop g).pushFrame (.throwNew cls (some text) none)) target) ∧
      Stand p l e R s m₀ args below meth c S locs (cells + 3) (slots + ((stringBytes (stringToUtf16 text)).size + 4 + 6)) ∧ S.heap[q]? = some ce ∧ s.vm.findClass cls = some ce.cls ∧ ce.vm = .none := by
  have howns : e.platform.frameOwnsMonitors = true := by rw [X.admits.platform]
  have hfin : e.platform.finalization = false := by rw [X.admits.platform]
  have hpl : e.platform.magicAccessors = ({} : Platform).magicAccessors := by rw [X.admits.platform]
  have a : ∀ x, x ∈ Bundle.messageArmAtoms cls names → x.holds args s none s [] = true := fun x hx => h x hx
  obtain ⟨T, Z0, L, -, Y⟩ := ThrowableC.of_atoms (args := args) howns hfin hpl (fun x hx => h x (by simp [Bundle.messageArmAtoms, hx]))
  obtain ⟨Z, M, LZ, LM, hnZ⟩ := Init0T.ofS_atoms (args := args) hpl L Y (fun x hx => h x (by simp [Bundle.messageArmAtoms, hx]))
  obtain ⟨P1, Ps, hlen, L1, hL, hP1m, hlink1, hlink⟩ := Bundle.chainS (args := args) hpl hnZ names cls hcls hnames (fun x hx => h x (by simp [Bundle.messageArmAtoms, hx]))
  obtain ⟨Zs, LZs, hn4, hfitv, hfitc⟩ := StringT.of_atoms (args := args) (fun x hx => h x (by simp [Bundle.messageArmAtoms, hx]))
  have hfound : s.vm.findClass cls = some P1.m.cls := findClass_of_methodNamed hP1m
  obtain ⟨c1, kX, hc1, hk, hord, -, -, hn6⟩ := Cond.instantiable_spec (a (.instantiable cls 6) (by simp [Bundle.messageArmAtoms]))
  cases Option.some.inj (hc1.symm.trans hfound)
  have hinit := Cond.initialized_spec hfound hk (a (.initialized cls) (by simp [Bundle.messageArmAtoms]))
  have hctor : kX.findMethod "<init>" "(Ljava/lang/String;)V" = some P1.m.idx := findMethod_of_methodNamed hP1m hk
  have hsel0 : selectMethod e.platform s.vm P1.m.cls T.fill0 = .method T.fill0 := by
    obtain ⟨c2, r2, m2, q1, q2, q3, q4, -⟩ := Cond.selects_spec (a (.selects cls Bundle.tFill0 Bundle.tFill0) (by simp [Bundle.messageArmAtoms]))
    cases Option.some.inj (q1.symm.trans hfound)
    cases Option.some.inj (q2.symm.trans (State.methodFound?_of_named Y.fill0 (by decide)))
    cases Option.some.inj (q3.symm.trans Y.fill0)
    rw [Launch.admits_selectMethod X.admits]; exact q4
  have hselF : selectMethod e.platform s.vm P1.m.cls T.fill = .method T.fill := by
    obtain ⟨c2, r2, m2, q1, q2, q3, q4, -⟩ := Cond.selects_spec (a (.selects cls Bundle.tFill Bundle.tFill) (by simp [Bundle.messageArmAtoms]))
    cases Option.some.inj (q1.symm.trans hfound)
    cases Option.some.inj (q2.symm.trans (State.methodFound?_of_named Y.fill (by decide)))
    cases Option.some.inj (q3.symm.trans Y.fill)
    rw [Launch.admits_selectMethod X.admits]; exact q4
  obtain ⟨cellS0, hcS0, hiss⟩ := Y.statics
  obtain ⟨u0, hu0⟩ := Cond.staticRefV Y.unassigned L.unassignedStatic L.statics hcS0 hiss (a (.isRef (.static Bundle.tN "UNASSIGNED_STACK" Bundle.steD)) (by simp [Bundle.messageArmAtoms]))
  obtain ⟨sen, hsen⟩ := Cond.staticRefV Y.sentinel L.sentinelStatic L.statics hcS0 hiss (a (.isRef (.static Bundle.tN "SUPPRESSED_SENTINEL" Bundle.listD)) (by simp [Bundle.messageArmAtoms]))
  obtain ⟨ci198, i198, fB, hk198, hg198, ha198, hsB, -, hnB, htB, hffB⟩ := Cond.ownField (t := .object "java/lang/Object") Y.found L.cls (by decide +kernel) (a (.fieldLink Bundle.tN 198 Bundle.tN "backtrace" "Ljava/lang/Object;") (by simp [Bundle.messageArmAtoms])) (a (.lays Bundle.tN Bundle.tN "backtrace" "Ljava/lang/Object;") (by simp [Bundle.messageArmAtoms])) e.platform hpl
  obtain ⟨cellS, hcS', heS, -, hkeep⟩ := X.same.2.2.2.2.2 T.aS cellS0 hcS0
  have hcellS : W.heap[T.aS]? = some cellS := hcS'
  have hout' : ∀ i, (⟨T.aS, i⟩ : Loc) ∉ locs := fun i hmem => by
    have := hlocs _ hmem cellS0 hcS0
    rw [hiss] at this; cases this
  have hknownS : cellS.vm ≠ .unknown := by
    rw [heS]; intro hu
    rw [show cellS0.vm = .unknown from hu] at hiss
    cases hiss
  have hvU : cellS.slots[T.fUnassigned.slot]? = some u0.v := by rw [hkeep _ (hout' _)]; exact hu0
  have hvSen : cellS.slots[T.fSentinel.slot]? = some sen.v := by rw [hkeep _ (hout' _)]; exact hsen
  obtain ⟨iM, hffM⟩ := Y.msg
  obtain ⟨tyC, dC, hdC, hdnC⟩ := Cond.laysAt hfound hk Y.cause (a (.lays cls Bundle.tN "cause" "Ljava/lang/Throwable;") (by simp [Bundle.messageArmAtoms]))
  obtain ⟨tyS, dS, hdS, hdnS⟩ := Cond.laysAt hfound hk Y.stack (a (.lays cls Bundle.tN "stackTrace" Bundle.steD) (by simp [Bundle.messageArmAtoms]))
  obtain ⟨tyP, dP, hdP, hdnP⟩ := Cond.laysAt hfound hk Y.supp (a (.lays cls Bundle.tN "suppressedExceptions" Bundle.listD) (by simp [Bundle.messageArmAtoms]))
  obtain ⟨tyM, dM, hdM, hdnM⟩ := Cond.laysAt hfound hk hffM (a (.lays cls Bundle.tN "detailMessage" "Ljava/lang/String;") (by simp [Bundle.messageArmAtoms]))
  obtain ⟨tyB, dB, hdB, hdnB⟩ := Cond.laysAt hfound hk hffB (a (.lays cls Bundle.tN "backtrace" "Ljava/lang/Object;") (by simp [Bundle.messageArmAtoms]))
  have bC := Cond.laysApart hdB hdC hdnB hdnC (by rw [hnB, Y.causeName]; decide)
  have bS := Cond.laysApart hdB hdS hdnB hdnS (by rw [hnB, Y.stackName]; decide)
  have bP := Cond.laysApart hdB hdP hdnB hdnP (by rw [hnB, Y.suppName]; decide)
  have hbk : ((preparedCellV T.toThrowableT (freshCell P1.m.cls kX) (W.heap.size + 2) u0 sen).withEntry W.cur).slots[fB.slot]? = some .null := by
    have := fresh_default (c := P1.m.cls) tyB
    rw [htB] at this
    simpa [preparedCellV, Cell.setSlot, Cell.withEntry, Array.getElem?_setIfInBounds, bC, bS, bP, bC.symm, bS.symm, bP.symm, defaultValue] using this
  have tkC := Takes.of_laid (v := .ref (W.heap.size + 2)) hk hord tyC (by rw [Y.causeType]; rfl)
  have tkS := Takes.of_laid (v := u0.v) hk hord tyS (by rw [Y.stackType]; exact fits_refV_array _ u0)
  have tkP := Takes.of_laid (v := sen.v) hk hord tyP (by rw [Y.suppType]; exact fits_refV_object _ sen)
  have tkM := Takes.of_laid (v := .ref (W.heap.size + 1)) hk hord tyM (by rw [Y.msgType]; rfl)
  have hskip : SkipFacts T e.platform s (fun u => u) u0 ((preparedCellV T.toThrowableT (freshCell P1.m.cls kX) (W.heap.size + 2) u0 sen).withEntry W.cur) := ⟨{ ci198 := ci198, i198 := i198, fBack := fB }, ⟨hk198, hg198, ha198, hsB⟩, hbk, fun _ _ => rfl⟩
  have h0 : At W g.method c below := by rw [hg]; exact X.here
  obtain ⟨hbeyond, hfreeW⟩ := X.vmMayThrow hsize (.throwNew cls (some text) none) (fun f hf => by cases hf) rfl hRlocals
  have hfr' : W.frames.length + Ps.length + 4 < (e.platform.stackLimits W.me).1 := by have := X.framesAbove hRframes; omega
  have hwd' : (stackUse (.java g :: W.frames.tail)).2 + 13 * Ps.length + 55 ≤ (e.platform.stackLimits W.me).2 := by have := X.stackAbove hsize (K := 13 * Ps.length + 55) (by omega); omega
  have hslots : W.slotsUsed + (stringBytes (stringToUtf16 text)).size + Zs.kS.instanceTypes.size + kX.instanceTypes.size ≤ e.platform.maxSlots := by
    have := X.slotsAbove hRslots
    rw [hn4, hn6]
    omega
  obtain ⟨vm', hW', st⟩ := Steps.vmThrowsMessageColdByV p (s₀ := s) (S := W) (g := g) h0 hexec T L Z LZ M LM X.warmed (t := W.cur) rfl Zs LZs P1 L1 Ps hL hlink1 hlink hsoe hoom hfound hk hinit hord hctor
    (Launch.admits_hotImplicitExceptions X.admits) hbeyond hfreeW htext hlimit hheap (X.cellsAbove hRcells) hslots (hfitv _) (hfitc _)
    (Nn := fun u => u) heapOnly_id (fun _ _ => rfl) (fun _ => rfl) (fun u x y => setCell_twice _ _ _ _) (fun _ => Nat.le_refl _) (cN := ((preparedCellV T.toThrowableT (freshCell P1.m.cls kX) (W.heap.size + 2) u0 sen).withEntry W.cur))
    hsel0 hcellS hknownS hvU tkS (fun _ hu => hu) (fun _ hu => hu) rfl rfl rfl (by simp [preparedCellV, Cell.setSlot, Cell.withEntry]) hskip (fun _ _ hA hW _ hroom _ hrest => L.nativeOff p htr hA hW hroom hrest) hselF hvSen tkC tkP tkM Y.objLocals rfl hfr' hwd'
  rw [plainBareV_eq T.toThrowableT (W.heap.size + 2) u0 sen (.ref (W.heap.size + 1)) W.cur rfl rfl] at st
  obtain ⟨-, -, w3, w4, -, -, -⟩ := withThrown_facts e.platform W Zs text P1.m.cls kX
  have X3 := ((X.pushed (bytesOf Zs.cB (stringToUtf16 text))).pushed (stringAt Zs.cS Zs.kS Zs.fv Zs.fc (stringToUtf16 text) W.heap.size)).pushed (freshCell P1.m.cls kX)
  rw [← withString_eq] at X3
  have X4 := X3.noted hW'
  have ha : (W.heap.size + 2) < ((withThrown W Zs text P1.m.cls kX).setVm vm').heap.size := by show _ < (withThrown W Zs text P1.m.cls kX).heap.size; rw [w3]; omega
  have hcell : ((withThrown W Zs text P1.m.cls kX).setVm vm').heap[(W.heap.size + 2)]? = some (freshCell P1.m.cls kX) := w4
  have X5 := ((((X4.stored hcell T.fCause.slot (.ref (W.heap.size + 2))).storedAgain ha T.fStack.slot u0.v).storedAgain ha T.fSupp.slot sen.v).storedAgain ha T.fStack.slot u0.v).storedAgain ha T.fMsg.slot (.ref (W.heap.size + 1))
  obtain ⟨g₁, hfrM⟩ := X5.frames_eq
  have hU : ((((withThrown W Zs text P1.m.cls kX).setVm vm').setCell (W.heap.size + 2) (plainBareV T.toThrowableT (freshCell P1.m.cls kX) (W.heap.size + 2) u0 sen (.ref (W.heap.size + 1)))).setTop g).pushFrame (.throwing (W.heap.size + 2)) = (((withThrown W Zs text P1.m.cls kX).setVm vm').setCell (W.heap.size + 2) (plainBareV T.toThrowableT (freshCell P1.m.cls kX) (W.heap.size + 2) u0 sen (.ref (W.heap.size + 1)))).setFrames (.throwing (W.heap.size + 2) :: .java g :: below) := by
    rw [State.pushFrame, State.frames_setTop _ hfrM, State.setTop_of_frames _ hfrM, State.setFrames_setFrames]
  have b1 : (bytesOf Zs.cB (stringToUtf16 text)).slots.size = (stringBytes (stringToUtf16 text)).size := by
    rw [(Cell.writeAll_facts _ _).2.2]; simp [bytes0]
  have b2 : (stringAt Zs.cS Zs.kS Zs.fv Zs.fc (stringToUtf16 text) W.heap.size).slots.size = 4 := by simp [string0, Cell.setSlot, hn4]
  have b3 : (freshCell P1.m.cls kX).slots.size = 6 := by simp [hn6]
  rw [b1, b2, b3] at X5
  have e9 : slots + (stringBytes (stringToUtf16 text)).size + 4 + 6 = slots + ((stringBytes (stringToUtf16 text)).size + 4 + 6) := by omega
  rw [e9] at X5
  simp only [List.append_assoc, List.cons_append, List.nil_append] at X5
  refine ⟨((withThrown W Zs text P1.m.cls kX).setVm vm').setCell (W.heap.size + 2) (plainBareV T.toThrowableT (freshCell P1.m.cls kX) (W.heap.size + 2) u0 sen (.ref (W.heap.size + 1))), W.heap.size + 2, _, fun target ht => st _ (by rw [X.tail, ← hU]; exact ht),
    X5.forget (fun y hy => ?_), heapAt_setCell_self _ ha, hfound, rfl⟩
  simp only [List.mem_cons, List.not_mem_nil, or_false] at hy
  have hge : s.heap.size ≤ W.heap.size := X.same.2.1
  rcases hy with rfl | rfl | rfl | rfl | rfl <;> exact Nat.le_trans hge (Nat.le_add_right _ 2)
set_option maxHeartbeats 1000000 in
/-- the machine throws NullPointerException, no traces kept: from its note over the frame g to 'throwing' over the same frame (follows the proof of Stand.vmThrowsNpe, Shelf42/KT2.lean; throwsNpeColdBareVAt, Shelf42/NT91.lean, called) -/
theorem vx_npeAt {p : Program} {l : Launch} {e : Env} {R : Room} {s : State} {m₀ : MethodId} {args : Array Value} {below : List Frame} {meth : Method} {c : Code} {W : State} {locs : List Loc} {cells slots : Nat}
    (X : Stand p l e R s m₀ args below meth c W locs cells slots) (hexec : p.tables.exec = Jvm.exec) (htr : e.platform.stackTraces = false) {n : Nat}
    (h : ∀ a ∈ Bundle.npeArmAtoms n, a.before args s = true)
    (hlocs : ∀ x ∈ locs, ∀ cell, s.heap[x.base]? = some cell → cell.vm.isStatics = false)
    {g : JFrame} (hg : g.method = m₀) (hsize : g.locals.size = c.maxLocals)
    (hRframes : 7 < R.frames) (hRlocals : 2 * g.monitorRoom + (g.stack.map fun v => v.category).sum + 10240 ≤ R.locals)
    (hRcells : cells + 1 ≤ R.cells) (hRslots : slots + n ≤ R.slots) (hlocks : meth.locks = false) :
    ∃ (S : State) (q : Addr) (ce : Cell), (∀ target, Steps p.tables e below ((S.setTop g).pushFrame (.throwing q)) target → Steps p.tables e below ((W.setTop g).pushFrame (.throwNew "java/lang/NullPointerException" none none)) target) ∧
      Stand p l e R s m₀ args below meth c S locs (cells + 1) (slots + n) ∧ S.heap[q]? = some ce ∧ s.vm.findClass "java/lang/NullPointerException" = some ce.cls ∧ ce.vm = .none := by
  have howns : e.platform.frameOwnsMonitors = true := by rw [X.admits.platform]
  have hfin : e.platform.finalization = false := by rw [X.admits.platform]
  have hpl : e.platform.magicAccessors = ({} : Platform).magicAccessors := by rw [X.admits.platform]
  have hpl2 : e.platform.arrayCloneIsPublic = true := by rw [X.admits.platform]
  have a' : ∀ x, x ∈ Bundle.npeArmAtoms n → x.holds args s none s [] = true := fun x hx => h x hx
  obtain ⟨T, Z, L, LZ, Y⟩ := ThrowableC.of_atoms (args := args) howns hfin hpl (fun x hx => h x (by simp [Bundle.npeArmAtoms, hx]))
  obtain ⟨N, LN, hcN, hnNF, hordN, hffS⟩ := NpeC.of_atoms (args := args) hpl hpl2 L Y (fun x hx => h x (by simp [Bundle.npeArmAtoms, hx]))
  obtain ⟨P1, L1, hP1m, hP1s⟩ := PassC.of_atoms (args := args) (s := s) hpl (X := Bundle.nN) (Y := Bundle.rN) (by decide) (by decide) LibCode.NullPointerException.Init0.at_0 LibCode.NullPointerException.Init0.at_1 LibCode.NullPointerException.Init0.at_4 (fun x hx => h x (by simp [Bundle.npeArmAtoms, hx]))
  obtain ⟨PR, LR, hPRm, hPRs⟩ := PassC.of_atoms (args := args) (s := s) hpl (X := Bundle.rN) (Y := Bundle.eN) (by decide) (by decide) LibCode.RuntimeException.Init0.at_0 LibCode.RuntimeException.Init0.at_1 LibCode.RuntimeException.Init0.at_4 (fun x hx => h x (by simp [Bundle.npeArmAtoms, hx]))
  obtain ⟨PE, LEx, hPEm, hPEs⟩ := PassC.of_atoms (args := args) (s := s) hpl (X := Bundle.eN) (Y := Bundle.tN) (by decide) (by decide) LibCode.Exception.Init0.at_0 LibCode.Exception.Init0.at_1 LibCode.Exception.Init0.at_4 (fun x hx => h x (by simp [Bundle.npeArmAtoms, hx]))
  have hfound : s.vm.findClass Bundle.nN = some P1.m.cls := findClass_of_methodNamed hP1m
  have ecls : N.cN = P1.m.cls := Option.some.inj (hcN.symm.trans hfound)
  have hk : s.vm.classes[P1.m.cls]? = some N.kN := by rw [← ecls]; exact LN.cls
  have hinit := Cond.initialized_spec hfound hk (a' (.initialized Bundle.nN) (by simp [Bundle.npeArmAtoms]))
  have hctor : N.kN.findMethod "<init>" "()V" = some P1.m.idx := findMethod_of_methodNamed hP1m hk
  obtain ⟨c1, k1, hc1, hk1, -, -, -, hn⟩ := Cond.instantiable_spec (a' (.instantiable Bundle.nN n) (by simp [Bundle.npeArmAtoms]))
  cases Option.some.inj (hc1.symm.trans hfound)
  cases Option.some.inj (hk1.symm.trans hk)
  have hfsz : (freshCell P1.m.cls N.kN).slots.size = n := by simp [hn]
  have hlink1 : P1.sup = PR.m := Option.some.inj (hP1s.symm.trans hPRm)
  have hlinkR : PR.sup = PE.m := Option.some.inj (hPRs.symm.trans hPEm)
  have hlinkE : PE.sup = Z.m T.toThrowableT := Option.some.inj (hPEs.symm.trans Y.init0)
  have hLs : ∀ P, P ∈ [PR, PE] → P.Links0 e.platform s := fun P hP => by
    simp only [List.mem_cons, List.not_mem_nil, or_false] at hP
    rcases hP with rfl | rfl
    · exact LR
    · exact LEx
  have hsel0 : selectMethod e.platform s.vm P1.m.cls T.fill0 = .method T.fill0 := by
    obtain ⟨c2, r2, m2, q1, q2, q3, q4, -⟩ := Cond.selects_spec (a' (.selects Bundle.nN Bundle.tFill0 Bundle.tFill0) (by simp [Bundle.npeArmAtoms]))
    cases Option.some.inj (q1.symm.trans hfound)
    cases Option.some.inj (q2.symm.trans (State.methodFound?_of_named Y.fill0 (by decide)))
    cases Option.some.inj (q3.symm.trans Y.fill0)
    rw [Launch.admits_selectMethod X.admits]; exact q4
  have hselF : selectMethod e.platform s.vm P1.m.cls T.fill = .method N.fill := by
    obtain ⟨c2, r2, m2, q1, q2, q3, q4, -⟩ := Cond.selects_spec (a' (.selects Bundle.nN Bundle.tFill Bundle.nFill) (by simp [Bundle.npeArmAtoms]))
    cases Option.some.inj (q1.symm.trans hfound)
    cases Option.some.inj (q2.symm.trans (State.methodFound?_of_named Y.fill (by decide)))
    cases Option.some.inj (q3.symm.trans hnNF)
    rw [Launch.admits_selectMethod X.admits]; exact q4
  obtain ⟨cellS0, hcS0, hiss⟩ := Y.statics
  obtain ⟨u0, hu0⟩ := Cond.staticRefV Y.unassigned L.unassignedStatic L.statics hcS0 hiss (a' (.isRef (.static Bundle.tN "UNASSIGNED_STACK" Bundle.steD)) (by simp [Bundle.npeArmAtoms]))
  obtain ⟨sen, hsen⟩ := Cond.staticRefV Y.sentinel L.sentinelStatic L.statics hcS0 hiss (a' (.isRef (.static Bundle.tN "SUPPRESSED_SENTINEL" Bundle.listD)) (by simp [Bundle.npeArmAtoms]))
  obtain ⟨ci198, i198, fB, hk198, hg198, ha198, hsB, -, hnB, htB, hffB⟩ := Cond.ownField (t := .object "java/lang/Object") Y.found L.cls (by decide +kernel) (a' (.fieldLink Bundle.tN 198 Bundle.tN "backtrace" Bundle.objD) (by simp [Bundle.npeArmAtoms])) (a' (.lays Bundle.tN Bundle.tN "backtrace" Bundle.objD) (by simp [Bundle.npeArmAtoms])) e.platform hpl
  obtain ⟨cellS, hcS', heS, -, hkeep⟩ := X.same.2.2.2.2.2 T.aS cellS0 hcS0
  have hcellS : W.heap[T.aS]? = some cellS := hcS'
  have hout' : ∀ i, (⟨T.aS, i⟩ : Loc) ∉ locs := fun i hmem => by
    have := hlocs _ hmem cellS0 hcS0
    rw [hiss] at this; cases this
  have hknownS : cellS.vm ≠ .unknown := by
    rw [heS]; intro hu
    rw [show cellS0.vm = .unknown from hu] at hiss
    cases hiss
  have hvU : cellS.slots[T.fUnassigned.slot]? = some u0.v := by rw [hkeep _ (hout' _)]; exact hu0
  have hvSen : cellS.slots[T.fSentinel.slot]? = some sen.v := by rw [hkeep _ (hout' _)]; exact hsen
  obtain ⟨tyC, dC, hdC, hdnC⟩ := Cond.laysAt hfound hk Y.cause (a' (.lays Bundle.nN Bundle.tN "cause" "Ljava/lang/Throwable;") (by simp [Bundle.npeArmAtoms]))
  obtain ⟨tyS, dS, hdS, hdnS⟩ := Cond.laysAt hfound hk Y.stack (a' (.lays Bundle.nN Bundle.tN "stackTrace" Bundle.steD) (by simp [Bundle.npeArmAtoms]))
  obtain ⟨tyP, dP, hdP, hdnP⟩ := Cond.laysAt hfound hk Y.supp (a' (.lays Bundle.nN Bundle.tN "suppressedExceptions" Bundle.listD) (by simp [Bundle.npeArmAtoms]))
  obtain ⟨tyX, dX, hdX, hdnX⟩ := Cond.laysAt hfound hk hffS (a' (.lays Bundle.nN Bundle.nN "extendedMessageState" "I") (by simp [Bundle.npeArmAtoms, Bundle.npeAtoms]))
  obtain ⟨hnX, htX⟩ := State.fieldFound?_type hffS (t := .int) (by decide +kernel)
  have xC := Cond.laysApart hdC hdX hdnC hdnX (by rw [hnX, Y.causeName]; decide)
  have xS := Cond.laysApart hdS hdX hdnS hdnX (by rw [hnX, Y.stackName]; decide)
  have xP := Cond.laysApart hdP hdX hdnP hdnX (by rw [hnX, Y.suppName]; decide)
  have hv0 : (freshCell P1.m.cls N.kN).slots[N.fState.slot]? = some (.int 0) := by
    have := fresh_default (c := P1.m.cls) tyX
    rw [htX] at this; exact this
  obtain ⟨tyB, dB, hdB, hdnB⟩ := Cond.laysAt hfound hk hffB (a' (.lays Bundle.nN Bundle.tN "backtrace" Bundle.objD) (by simp [Bundle.npeArmAtoms]))
  have bC := Cond.laysApart hdB hdC hdnB hdnC (by rw [hnB, Y.causeName]; decide)
  have bS := Cond.laysApart hdB hdS hdnB hdnS (by rw [hnB, Y.stackName]; decide)
  have bP := Cond.laysApart hdB hdP hdnB hdnP (by rw [hnB, Y.suppName]; decide)
  have bX := Cond.laysApart hdB hdX hdnB hdnX (by rw [hnB, hnX]; decide)
  have hbk : ((npeCell N.toNpeT (preparedCellV T.toThrowableT (freshCell P1.m.cls N.kN) W.heap.size u0 sen) W.cur).withEntry W.cur).slots[fB.slot]? = some .null := by
    have := fresh_default (c := P1.m.cls) tyB
    rw [htB] at this
    simpa [npeCell, preparedCellV, Cell.setSlot, Cell.withEntry, Array.getElem?_setIfInBounds, bC, bS, bP, bX, bC.symm, bS.symm, bP.symm, bX.symm, defaultValue] using this
  have tkC := Takes.of_laid (v := .ref W.heap.size) hk hordN tyC (by rw [Y.causeType]; rfl)
  have tkS := Takes.of_laid (v := u0.v) hk hordN tyS (by rw [Y.stackType]; exact fits_refV_array _ u0)
  have tkP := Takes.of_laid (v := sen.v) hk hordN tyP (by rw [Y.suppType]; exact fits_refV_object _ sen)
  have tkX := Takes.of_laid (v := .int 1) hk hordN tyX (by rw [htX]; rfl)
  have hskip : SkipFacts T e.platform s (fun u => u) u0 ((npeCell N.toNpeT (preparedCellV T.toThrowableT (freshCell P1.m.cls N.kN) W.heap.size u0 sen) W.cur).withEntry W.cur) := ⟨{ ci198 := ci198, i198 := i198, fBack := fB }, ⟨hk198, hg198, ha198, hsB⟩, hbk, fun _ _ => rfl⟩
  obtain ⟨vm', X3, st, -⟩ := X.throwsNpeColdBareVAt hexec hg hsize T L Z LZ N LN P1 L1 [PR, PE] hLs hlink1 ⟨hlinkR, hlinkE, trivial⟩ hfound hk hinit hordN hctor hsel0 hselF hcellS hknownS hvU hvSen
    hv0 xC xS xP tkC tkS tkP tkX Y.objLocals hskip (fun _ _ hA hW _ hroom _ hrest => L.nativeOff p htr hA hW hroom hrest) (by simpa using hRframes) hRlocals (by simp) hRcells (by rw [hn]; exact hRslots)
  have hlt : W.heap.size < ((W.pushCell (freshCell P1.m.cls N.kN)).setVm vm').heap.size := by
    show W.heap.size < (W.pushCell (freshCell P1.m.cls N.kN)).heap.size
    rw [State.heap_size_pushCell]; omega
  rw [hfsz] at X3
  obtain ⟨g₁, hfrM⟩ := X3.frames_eq
  have hU : ((((W.pushCell (freshCell P1.m.cls N.kN)).setVm vm').setCell W.heap.size (npeBareV T.toThrowableT N.toNpeT (freshCell P1.m.cls N.kN) W.heap.size u0 sen)).setTop g).pushFrame (.throwing W.heap.size) = (((W.pushCell (freshCell P1.m.cls N.kN)).setVm vm').setCell W.heap.size (npeBareV T.toThrowableT N.toNpeT (freshCell P1.m.cls N.kN) W.heap.size u0 sen)).setFrames (.throwing W.heap.size :: .java g :: below) := by
    rw [State.pushFrame, State.frames_setTop _ hfrM, State.setTop_of_frames _ hfrM, State.setFrames_setFrames]
  refine ⟨_, W.heap.size, _, fun target ht => st.trans (by rw [← hU]; exact ht), X3.forget (fun y hy => ?_), heapAt_setCell_self _ hlt, hfound, rfl⟩
  simp only [List.mem_cons, List.not_mem_nil, or_false] at hy
  have hge : s.heap.size ≤ W.heap.size := X.same.2.1
  rcases hy with rfl | rfl | rfl | rfl | rfl <;> exact hge
/-- the words of a machine's NullPointerException, but the four that speak of the heap -/
def vx_atN (n : Nat) : List Cond := (Bundle.npeArmAtoms n).filter vx_no
/-- the words of a machine's throw with a message, but the four that speak of the heap -/
def vx_atM (X : String) (names : List String) : List Cond := (Bundle.messageArmAtoms X names).filter vx_no
section
variable {p : Program} {l : Launch} {e : Env} {R : Room} {s : State} {m : MethodId} {args : Array Value} {below : List Frame} {meth : Method} {c : Code} {H : Heap} {locs : List Loc} {cells slots : Nat}
/-- a frame seen from a rebased start, seen from the first start again -/
theorem vx_back9 {T S : State} {R' : Room} {k n : Nat} (X : Stand p l e R s m args below meth c T locs cells slots) (Y : Stand p l e R' ((T.setVm s.vm).setFrames (.invoking m args :: below)) m args below meth c T [] 0 0) (Z : Stand p l e R' ((T.setVm s.vm).setFrames (.invoking m args :: below)) m args below meth c S [] k n) :
    Stand p l e R s m args below meth c S locs (cells + k) (slots + n) := by
  have hW0 : s.WarmedH ((T.setVm s.vm).setFrames (.invoking m args :: below)).vm := State.WarmedH.refl s
  refine { admits := X.admits, cas := X.cas, clock := X.clock, frames := X.frames, room := X.room, hears := X.hears, method := X.method, code := X.code, here := Z.here, tail := Z.tail, warmed := State.WarmedH.trans hW0 Z.warmed, limits := Z.limits.trans (Y.limits.symm.trans X.limits), bytes := Z.bytes.trans (Y.bytes.symm.trans X.bytes), same := ?_ }
  obtain ⟨e1, e2⟩ := Z.same
  rw [State.setFrames_setFrames] at e1
  have h2 : (T.setVm s.vm).sameButNew (S.setVm s.vm) [] k n := ⟨e1, e2⟩
  have h3 := X.same.trans h2
  rw [List.append_nil] at h3
  exact h3
/-- from the machine's note that E is thrown here with this text -/
def vx_Note (p : Program) (l : Launch) (e : Env) (R : Room) (s : State) (m : MethodId) (args : Array Value) (below : List Frame) (meth : Method) (c : Code) (H : Heap) (locs : List Loc) (cells slots : Nat) (Q : State → Prop) (g : JFrame) (E text : String) : Prop :=
  ∀ T : State, T.heap = H → Stand p l e R s m args below meth c T locs cells slots → ∃ t, Steps p.tables e below ((T.setTop g).pushFrame (.throwNew E (some text) none)) t ∧ Q t
theorem vx_vm {pc : Nat} {ls : Array Slot} {rest : List Value} {Q : State → Prop} (hexec : p.tables.exec = Jvm.exec) (hl : l.stackTraces = false) {cls text : String} {names : List String} {nb : Nat} {A : Nat → Prop}
    (hcls : Bundle.fit cls = true) (hnames : ∀ n ∈ names, Bundle.fit n = true) (hsoe : (cls == "java/lang/StackOverflowError") = false) (hoom : (cls == "java/lang/OutOfMemoryError") = false)
    (hat : ∀ w ∈ vx_atM cls names, w.before args s = true) (hgood : ∀ w ∈ vx_atM cls names, vx_ot w = true)
    (hU : vx_Zq Bundle.tN "UNASSIGNED_STACK" Bundle.steD A s s.heap) (hN : vx_Zq Bundle.tN "SUPPRESSED_SENTINEL" Bundle.listD A s s.heap) (hS : va_S A s.heap H locs) (hsize : ls.size = c.maxLocals)
    (htext : (text == notModelled) = false) (hnb : (stringBytes (stringToUtf16 text)).size ≤ nb) (hnb1 : nb ≤ 1000)
    (hRframes : names.length + 4 < R.frames) (hRlocals : (rest.map fun v => v.category).sum + 10240 ≤ R.locals) (hshort : 13 * names.length + 55 ≤ 10240) (hRcells : cells + 3 ≤ R.cells) (hRslots : slots + (nb + 10) ≤ R.slots) (hlocks : meth.locks = false)
    (k : ∀ (H1 : Heap) (q9 : Addr) (ce : Cell), H.size ≤ H1.size → (∀ q : Nat, q < H.size → H1[q]? = H[q]?) → va_S A s.heap H1 locs → H1[q9]? = some ce → ce.vm = .none → s.vm.findClass cls = some ce.cls → vx_W p l e R s m args below meth c H1 locs (cells + 3) (slots + (nb + 10)) Q (F0 m pc ls rest) q9) :
    vx_Note p l e R s m args below meth c H locs cells slots Q (F0 m pc ls rest) cls text := by
  intro T hT X
  have htr : e.platform.stackTraces = false := (show e.platform.stackTraces = l.stackTraces by rw [X.admits.platform]).trans hl
  have Y := vx_rebase X (R' := { frames := R.frames, locals := R.locals, cells := 3, slots := nb + 10 }) (Nat.le_refl _) (Nat.le_refl _) hRcells hRslots
  have hhp : ((T.setVm s.vm).setFrames (.invoking m args :: below)).heap = H := hT
  have hW0 : s.WarmedH ((T.setVm s.vm).setFrames (.invoking m args :: below)).vm := State.WarmedH.refl s
  have hat' : ∀ w ∈ vx_atM cls names, w.before args ((T.setVm s.vm).setFrames (.invoking m args :: below)) = true := fun w hw => vx_ot_at hW0 rfl (hgood w hw) (hat w hw)
  have hU' : vx_Zq Bundle.tN "UNASSIGNED_STACK" Bundle.steD A ((T.setVm s.vm).setFrames (.invoking m args :: below)) ((T.setVm s.vm).setFrames (.invoking m args :: below)).heap := by rw [hhp]; exact vx_Zq.moved hW0.alike (hU.kept hS.2.1)
  have hN' : vx_Zq Bundle.tN "SUPPRESSED_SENTINEL" Bundle.listD A ((T.setVm s.vm).setFrames (.invoking m args :: below)) ((T.setVm s.vm).setFrames (.invoking m args :: below)).heap := by rw [hhp]; exact vx_Zq.moved hW0.alike (hN.kept hS.2.1)
  obtain ⟨S, q, ce, st, Z, hce, hcl', hv⟩ := vx_vmAt Y hexec htr (cls := cls) (names := names) (text := text) hcls hnames hsoe hoom (vx_own hat' (vx_isRefq hU'.1) (vx_isRefq hN'.1) hU'.2.word hN'.2.word) (fun x hx => nomatch hx) htext
    (by rw [Launch.admits_arrayLengthLimit X.admits]; omega) (by rw [Launch.admits_maxHeapBytes X.admits]; simp only [componentBytes]; omega)
    (g := F0 m pc ls rest) rfl hsize hRframes (by show 2 * 0 + (rest.map fun v => v.category).sum + 10240 ≤ R.locals; omega) hshort (by show 0 + 3 ≤ 3; omega) (by show 0 + (_ + 4 + 6) ≤ nb + 10; omega) hlocks
  obtain ⟨f1, f2⟩ := vx_frame Z.same
  have f1' : H.size ≤ S.heap.size := by rw [← hT]; exact f1
  have f2' : ∀ q : Nat, q < H.size → S.heap[q]? = H[q]? := fun q hq => by
    rw [← hT]
    exact f2 q (by rw [← hT] at hq; exact hq) (fun z hz => nomatch hz)
  have X5 := vx_back9 X Y Z
  have X6 : Stand p l e R s m args below meth c S locs (cells + 3) (slots + (nb + 10)) := { X5 with same := X5.same.mono (by omega) (by omega) }
  obtain ⟨t, a1, b1⟩ := k S.heap q ce f1' f2' ⟨Nat.le_trans hS.1 f1', fun q h1 h2 => (f2' q (Nat.lt_of_lt_of_le h1 hS.1)).trans (hS.2.1 q h1 h2), hS.2.2⟩ hce hv hcl' S rfl X6
  exact ⟨t, st t a1, b1⟩
/-- from the machine's note that NullPointerException is thrown here -/
def vx_NoteN (p : Program) (l : Launch) (e : Env) (R : Room) (s : State) (m : MethodId) (args : Array Value) (below : List Frame) (meth : Method) (c : Code) (H : Heap) (locs : List Loc) (cells slots : Nat) (Q : State → Prop) (g : JFrame) : Prop :=
  ∀ T : State, T.heap = H → Stand p l e R s m args below meth c T locs cells slots → ∃ t, Steps p.tables e below ((T.setTop g).pushFrame (.throwNew "java/lang/NullPointerException" none none)) t ∧ Q t
theorem vx_npe {pc : Nat} {ls : Array Slot} {rest : List Value} {Q : State → Prop} (hexec : p.tables.exec = Jvm.exec) (hl : l.stackTraces = false) {nb : Nat} {A : Nat → Prop}
    (hat : ∀ w ∈ vx_atN nb, w.before args s = true) (hgood : ∀ w ∈ vx_atN nb, vx_ot w = true)
    (hU : vx_Zq Bundle.tN "UNASSIGNED_STACK" Bundle.steD A s s.heap) (hN : vx_Zq Bundle.tN "SUPPRESSED_SENTINEL" Bundle.listD A s s.heap) (hS : va_S A s.heap H locs) (hsize : ls.size = c.maxLocals)
    (hRframes : 7 < R.frames) (hRlocals : (rest.map fun v => v.category).sum + 10240 ≤ R.locals) (hRcells : cells + 1 ≤ R.cells) (hRslots : slots + nb ≤ R.slots) (hlocks : meth.locks = false)
    (k : ∀ (H1 : Heap) (q9 : Addr) (ce : Cell), H.size ≤ H1.size → (∀ q : Nat, q < H.size → H1[q]? = H[q]?) → va_S A s.heap H1 locs → H1[q9]? = some ce → ce.vm = .none → s.vm.findClass "java/lang/NullPointerException" = some ce.cls → vx_W p l e R s m args below meth c H1 locs (cells + 1) (slots + nb) Q (F0 m pc ls rest) q9) :
    vx_NoteN p l e R s m args below meth c H locs cells slots Q (F0 m pc ls rest) := by
  intro T hT X
  have htr : e.platform.stackTraces = false := (show e.platform.stackTraces = l.stackTraces by rw [X.admits.platform]).trans hl
  have Y := vx_rebase X (R' := { frames := R.frames, locals := R.locals, cells := 1, slots := nb }) (Nat.le_refl _) (Nat.le_refl _) hRcells hRslots
  have hhp : ((T.setVm s.vm).setFrames (.invoking m args :: below)).heap = H := hT
  have hW0 : s.WarmedH ((T.setVm s.vm).setFrames (.invoking m args :: below)).vm := State.WarmedH.refl s
  have hat' : ∀ w ∈ vx_atN nb, w.before args ((T.setVm s.vm).setFrames (.invoking m args :: below)) = true := fun w hw => vx_ot_at hW0 rfl (hgood w hw) (hat w hw)
  have hU' : vx_Zq Bundle.tN "UNASSIGNED_STACK" Bundle.steD A ((T.setVm s.vm).setFrames (.invoking m args :: below)) ((T.setVm s.vm).setFrames (.invoking m args :: below)).heap := by rw [hhp]; exact vx_Zq.moved hW0.alike (hU.kept hS.2.1)
  have hN' : vx_Zq Bundle.tN "SUPPRESSED_SENTINEL" Bundle.listD A ((T.setVm s.vm).setFrames (.invoking m args :: below)) ((T.setVm s.vm).setFrames (.invoking m args :: below)).heap := by rw [hhp]; exact vx_Zq.moved hW0.alike (hN.kept hS.2.1)
  obtain ⟨S, q, ce, st, Z, hce, hcl', hv⟩ := vx_npeAt Y hexec htr (n := nb) (vx_own hat' (vx_isRefq hU'.1) (vx_isRefq hN'.1) hU'.2.word hN'.2.word) (fun x hx => nomatch hx)
    (g := F0 m pc ls rest) rfl hsize hRframes (by show 2 * 0 + (rest.map fun v => v.category).sum + 10240 ≤ R.locals; omega) (by show 0 + 1 ≤ 1; omega) (by show 0 + nb ≤ nb; omega) hlocks
  obtain ⟨f1, f2⟩ := vx_frame Z.same
  have f1' : H.size ≤ S.heap.size := by rw [← hT]; exact f1
  have f2' : ∀ q : Nat, q < H.size → S.heap[q]? = H[q]? := fun q hq => by
    rw [← hT]
    exact f2 q (by rw [← hT] at hq; exact hq) (fun z hz => nomatch hz)
  have X5 := vx_back9 X Y Z
  have X6 : Stand p l e R s m args below meth c S locs (cells + 1) (slots + nb) := { X5 with same := X5.same.mono (by omega) (by omega) }
  obtain ⟨t, a1, b1⟩ := k S.heap q ce f1' f2' ⟨Nat.le_trans hS.1 f1', fun q h1 h2 => (f2' q (Nat.lt_of_lt_of_le h1 hS.1)).trans (hS.2.1 q h1 h2), hS.2.2⟩ hce hv hcl' S rfl X6
  exact ⟨t, st t a1, b1⟩
variable {Q : State → Prop} {cc : ByteArray} {pc : Nat} {ls : Array Slot} {rest : List Value}
theorem vx_idivZ (hexec : p.tables.exec = Jvm.exec) (hb : c.code = cc) {a b : Int32} (h0 : b = 0) (d : decode cc pc = .ok (.idiv, 1)) (k : vx_Note p l e R s m args below meth c H locs cells slots Q (F0 m pc ls rest) "java/lang/ArithmeticException" "/ by zero") :
    W p l e R s m args below meth c H locs cells slots Q (F0 m pc ls (.int b :: .int a :: rest)) := by
  intro T hT X
  obtain ⟨t, st, q⟩ := k T hT X
  exact ⟨t, X.idivZero hexec (g := F0 m pc ls (.int b :: .int a :: rest)) rfl (a := a) (rest := rest) (by rw [h0]) (by rw [hb]; exact d) t st, q⟩
theorem vx_iremZ (hexec : p.tables.exec = Jvm.exec) (hb : c.code = cc) {a b : Int32} (h0 : b = 0) (d : decode cc pc = .ok (.irem, 1)) (k : vx_Note p l e R s m args below meth c H locs cells slots Q (F0 m pc ls rest) "java/lang/ArithmeticException" "/ by zero") :
    W p l e R s m args below meth c H locs cells slots Q (F0 m pc ls (.int b :: .int a :: rest)) := by
  intro T hT X
  obtain ⟨t, st, q⟩ := k T hT X
  exact ⟨t, X.iremZero hexec (g := F0 m pc ls (.int b :: .int a :: rest)) rfl (a := a) (rest := rest) (by rw [h0]) (by rw [hb]; exact d) t st, q⟩
theorem vx_ldivZ (hexec : p.tables.exec = Jvm.exec) (hb : c.code = cc) {a b : Int64} (h0 : b = 0) (d : decode cc pc = .ok (.ldiv, 1)) (k : vx_Note p l e R s m args below meth c H locs cells slots Q (F0 m pc ls rest) "java/lang/ArithmeticException" "/ by zero") :
    W p l e R s m args below meth c H locs cells slots Q (F0 m pc ls (.long b :: .long a :: rest)) := by
  intro T hT X
  obtain ⟨t, st, q⟩ := k T hT X
  exact ⟨t, X.ldivZero hexec (g := F0 m pc ls (.long b :: .long a :: rest)) rfl (a := a) (rest := rest) (by rw [h0]) (by rw [hb]; exact d) t st, q⟩
theorem vx_lremZ (hexec : p.tables.exec = Jvm.exec) (hb : c.code = cc) {a b : Int64} (h0 : b = 0) (d : decode cc pc = .ok (.lrem, 1)) (k : vx_Note p l e R s m args below meth c H locs cells slots Q (F0 m pc ls rest) "java/lang/ArithmeticException" "/ by zero") :
    W p l e R s m args below meth c H locs cells slots Q (F0 m pc ls (.long b :: .long a :: rest)) := by
  intro T hT X
  obtain ⟨t, st, q⟩ := k T hT X
  exact ⟨t, X.lremZero hexec (g := F0 m pc ls (.long b :: .long a :: rest)) rfl (a := a) (rest := rest) (by rw [h0]) (by rw [hb]; exact d) t st, q⟩
theorem vx_ialdZ {D : va_G} {cl : List vw_C} {ws : va_W} {tys : List (ClassId × FieldType)} {a : Nat} (hexec : p.tables.exec = Jvm.exec) (hb : c.code = cc) (hK : va_K D cl tys s) (hP : va_P D cl ws H) (q0 t0 : Nat) {cA : ClassId} {n : Nat} {f : Nat → Int32} (ha : ws[q0]? = some (a, .inl (cA, n, .inl f))) (ht : tys[t0]? = some (cA, .int)) {i : Int32} (hout : ¬ vp_in i n) (hdg : decode cc pc = .ok (.iaload, 1))
    (k : ∀ tx : String, tx = (toString "Index " ++ toString i ++ toString " out of bounds for length " ++ toString n : String) → vx_Note p l e R s m args below meth c H locs cells slots Q (F0 m pc ls rest) "java/lang/ArrayIndexOutOfBoundsException" tx) : W p l e R s m args below meth c H locs cells slots Q (F0 m pc ls (.int i :: .ref a :: rest)) := by
  intro T hT X
  obtain ⟨t, st, q⟩ := k _ rfl T hT X
  refine ⟨t, ?_, q⟩
  have h1 := X.ialoadOut hexec (by rw [hT]; exact hP q0 _ ha) ((hK.2 t0 _ ht).1 n (fun j => .int (f j))) (j := i) (by show (i < 0 ∨ (arrV _ _ _).slots.size ≤ _); rw [arrV_size]; exact Classical.byContradiction hout) (g := F0 m pc ls (.int i :: .ref a :: rest)) rfl (rest := rest) rfl (by rw [hb]; exact hdg) t
  simp only [arrV_size] at h1
  exact h1 st
theorem vx_iastZ {D : va_G} {cl : List vw_C} {ws : va_W} {tys : List (ClassId × FieldType)} {a : Nat} (hexec : p.tables.exec = Jvm.exec) (hb : c.code = cc) (hK : va_K D cl tys s) (hP : va_P D cl ws H) (q0 t0 : Nat) {cA : ClassId} {n : Nat} {f : Nat → Int32} (ha : ws[q0]? = some (a, .inl (cA, n, .inl f))) (ht : tys[t0]? = some (cA, .int)) {i : Int32} {x : Int32} (hout : ¬ vp_in i n) (hdg : decode cc pc = .ok (.iastore, 1))
    (k : ∀ tx : String, tx = (toString "Index " ++ toString i ++ toString " out of bounds for length " ++ toString n : String) → vx_Note p l e R s m args below meth c H locs cells slots Q (F0 m pc ls rest) "java/lang/ArrayIndexOutOfBoundsException" tx) : W p l e R s m args below meth c H locs cells slots Q (F0 m pc ls (.int x :: .int i :: .ref a :: rest)) := by
  intro T hT X
  obtain ⟨t, st, q⟩ := k _ rfl T hT X
  refine ⟨t, ?_, q⟩
  have h1 := X.iastoreOut hexec (by rw [hT]; exact hP q0 _ ha) ((hK.2 t0 _ ht).1 n (fun j => .int (f j))) (j := i) (by show (i < 0 ∨ (arrV _ _ _).slots.size ≤ _); rw [arrV_size]; exact Classical.byContradiction hout) (g := F0 m pc ls (.int x :: .int i :: .ref a :: rest)) rfl (rest := rest) rfl (by rw [hb]; exact hdg) t
  simp only [arrV_size] at h1
  exact h1 st
theorem vx_baldZ {D : va_G} {cl : List vw_C} {ws : va_W} {tys : List (ClassId × FieldType)} {a : Nat} (hexec : p.tables.exec = Jvm.exec) (hb : c.code = cc) (hK : va_K D cl tys s) (hP : va_P D cl ws H) (q0 t0 : Nat) {cA : ClassId} {n : Nat} {f : Nat → Int32} (ha : ws[q0]? = some (a, .inl (cA, n, .inl f))) (ht : tys[t0]? = some (cA, .byte)) {i : Int32} (hout : ¬ vp_in i n) (hdg : decode cc pc = .ok (.baload, 1))
    (k : ∀ tx : String, tx = (toString "Index " ++ toString i ++ toString " out of bounds for length " ++ toString n : String) → vx_Note p l e R s m args below meth c H locs cells slots Q (F0 m pc ls rest) "java/lang/ArrayIndexOutOfBoundsException" tx) : W p l e R s m args below meth c H locs cells slots Q (F0 m pc ls (.int i :: .ref a :: rest)) := by
  intro T hT X
  obtain ⟨t, st, q⟩ := k _ rfl T hT X
  refine ⟨t, ?_, q⟩
  have h1 := X.baloadOut hexec (by rw [hT]; exact hP q0 _ ha) ((hK.2 t0 _ ht).1 n (fun j => .int (f j))) (j := i) (by show (i < 0 ∨ (arrV _ _ _).slots.size ≤ _); rw [arrV_size]; exact Classical.byContradiction hout) (g := F0 m pc ls (.int i :: .ref a :: rest)) rfl (rest := rest) rfl (by rw [hb]; exact hdg) t
  simp only [arrV_size] at h1
  exact h1 st
theorem vx_bastZ {D : va_G} {cl : List vw_C} {ws : va_W} {tys : List (ClassId × FieldType)} {a : Nat} (hexec : p.tables.exec = Jvm.exec) (hb : c.code = cc) (hK : va_K D cl tys s) (hP : va_P D cl ws H) (q0 t0 : Nat) {cA : ClassId} {n : Nat} {f : Nat → Int32} (ha : ws[q0]? = some (a, .inl (cA, n, .inl f))) (ht : tys[t0]? = some (cA, .byte)) {i : Int32} {x : Int32} (hout : ¬ vp_in i n) (hdg : decode cc pc = .ok (.bastore, 1))
    (k : ∀ tx : String, tx = (toString "Index " ++ toString i ++ toString " out of bounds for length " ++ toString n : String) → vx_Note p l e R s m args below meth c H locs cells slots Q (F0 m pc ls rest) "java/lang/ArrayIndexOutOfBoundsException" tx) : W p l e R s m args below meth c H locs cells slots Q (F0 m pc ls (.int x :: .int i :: .ref a :: rest)) := by
  intro T hT X
  obtain ⟨t, st, q⟩ := k _ rfl T hT X
  refine ⟨t, ?_, q⟩
  have h1 := X.bastoreOut hexec (by rw [hT]; exact hP q0 _ ha) ((hK.2 t0 _ ht).1 n (fun j => .int (f j))) (j := i) (by show (i < 0 ∨ (arrV _ _ _).slots.size ≤ _); rw [arrV_size]; exact Classical.byContradiction hout) (g := F0 m pc ls (.int x :: .int i :: .ref a :: rest)) rfl (rest := rest) rfl (by rw [hb]; exact hdg) t
  simp only [arrV_size] at h1
  exact h1 st
theorem vx_zaldZ {D : va_G} {cl : List vw_C} {ws : va_W} {tys : List (ClassId × FieldType)} {a : Nat} (hexec : p.tables.exec = Jvm.exec) (hb : c.code = cc) (hK : va_K D cl tys s) (hP : va_P D cl ws H) (q0 t0 : Nat) {cA : ClassId} {n : Nat} {f : Nat → Int32} (ha : ws[q0]? = some (a, .inl (cA, n, .inl f))) (ht : tys[t0]? = some (cA, .boolean)) {i : Int32} (hout : ¬ vp_in i n) (hdg : decode cc pc = .ok (.baload, 1))
    (k : ∀ tx : String, tx = (toString "Index " ++ toString i ++ toString " out of bounds for length " ++ toString n : String) → vx_Note p l e R s m args below meth c H locs cells slots Q (F0 m pc ls rest) "java/lang/ArrayIndexOutOfBoundsException" tx) : W p l e R s m args below meth c H locs cells slots Q (F0 m pc ls (.int i :: .ref a :: rest)) := by
  intro T hT X
  obtain ⟨t, st, q⟩ := k _ rfl T hT X
  refine ⟨t, ?_, q⟩
  have h1 := X.baloadOut hexec (by rw [hT]; exact hP q0 _ ha) ((hK.2 t0 _ ht).1 n (fun j => .int (f j))) (j := i) (by show (i < 0 ∨ (arrV _ _ _).slots.size ≤ _); rw [arrV_size]; exact Classical.byContradiction hout) (g := F0 m pc ls (.int i :: .ref a :: rest)) rfl (rest := rest) rfl (by rw [hb]; exact hdg) t
  simp only [arrV_size] at h1
  exact h1 st
theorem vx_zastZ {D : va_G} {cl : List vw_C} {ws : va_W} {tys : List (ClassId × FieldType)} {a : Nat} (hexec : p.tables.exec = Jvm.exec) (hb : c.code = cc) (hK : va_K D cl tys s) (hP : va_P D cl ws H) (q0 t0 : Nat) {cA : ClassId} {n : Nat} {f : Nat → Int32} (ha : ws[q0]? = some (a, .inl (cA, n, .inl f))) (ht : tys[t0]? = some (cA, .boolean)) {i : Int32} {x : Int32} (hout : ¬ vp_in i n) (hdg : decode cc pc = .ok (.bastore, 1))
    (k : ∀ tx : String, tx = (toString "Index " ++ toString i ++ toString " out of bounds for length " ++ toString n : String) → vx_Note p l e R s m args below meth c H locs cells slots Q (F0 m pc ls rest) "java/lang/ArrayIndexOutOfBoundsException" tx) : W p l e R s m args below meth c H locs cells slots Q (F0 m pc ls (.int x :: .int i :: .ref a :: rest)) := by
  intro T hT X
  obtain ⟨t, st, q⟩ := k _ rfl T hT X
  refine ⟨t, ?_, q⟩
  have h1 := X.bastoreOut hexec (by rw [hT]; exact hP q0 _ ha) ((hK.2 t0 _ ht).1 n (fun j => .int (f j))) (j := i) (by show (i < 0 ∨ (arrV _ _ _).slots.size ≤ _); rw [arrV_size]; exact Classical.byContradiction hout) (g := F0 m pc ls (.int x :: .int i :: .ref a :: rest)) rfl (rest := rest) rfl (by rw [hb]; exact hdg) t
  simp only [arrV_size] at h1
  exact h1 st
theorem vx_caldZ {D : va_G} {cl : List vw_C} {ws : va_W} {tys : List (ClassId × FieldType)} {a : Nat} (hexec : p.tables.exec = Jvm.exec) (hb : c.code = cc) (hK : va_K D cl tys s) (hP : va_P D cl ws H) (q0 t0 : Nat) {cA : ClassId} {n : Nat} {f : Nat → Int32} (ha : ws[q0]? = some (a, .inl (cA, n, .inl f))) (ht : tys[t0]? = some (cA, .char)) {i : Int32} (hout : ¬ vp_in i n) (hdg : decode cc pc = .ok (.caload, 1))
    (k : ∀ tx : String, tx = (toString "Index " ++ toString i ++ toString " out of bounds for length " ++ toString n : String) → vx_Note p l e R s m args below meth c H locs cells slots Q (F0 m pc ls rest) "java/lang/ArrayIndexOutOfBoundsException" tx) : W p l e R s m args below meth c H locs cells slots Q (F0 m pc ls (.int i :: .ref a :: rest)) := by
  intro T hT X
  obtain ⟨t, st, q⟩ := k _ rfl T hT X
  refine ⟨t, ?_, q⟩
  have h1 := X.caloadOut hexec (by rw [hT]; exact hP q0 _ ha) ((hK.2 t0 _ ht).1 n (fun j => .int (f j))) (j := i) (by show (i < 0 ∨ (arrV _ _ _).slots.size ≤ _); rw [arrV_size]; exact Classical.byContradiction hout) (g := F0 m pc ls (.int i :: .ref a :: rest)) rfl (rest := rest) rfl (by rw [hb]; exact hdg) t
  simp only [arrV_size] at h1
  exact h1 st
theorem vx_castZ {D : va_G} {cl : List vw_C} {ws : va_W} {tys : List (ClassId × FieldType)} {a : Nat} (hexec : p.tables.exec = Jvm.exec) (hb : c.code = cc) (hK : va_K D cl tys s) (hP : va_P D cl ws H) (q0 t0 : Nat) {cA : ClassId} {n : Nat} {f : Nat → Int32} (ha : ws[q0]? = some (a, .inl (cA, n, .inl f))) (ht : tys[t0]? = some (cA, .char)) {i : Int32} {x : Int32} (hout : ¬ vp_in i n) (hdg : decode cc pc = .ok (.castore, 1))
    (k : ∀ tx : String, tx = (toString "Index " ++ toString i ++ toString " out of bounds for length " ++ toString n : String) → vx_Note p l e R s m args below meth c H locs cells slots Q (F0 m pc ls rest) "java/lang/ArrayIndexOutOfBoundsException" tx) : W p l e R s m args below meth c H locs cells slots Q (F0 m pc ls (.int x :: .int i :: .ref a :: rest)) := by
  intro T hT X
  obtain ⟨t, st, q⟩ := k _ rfl T hT X
  refine ⟨t, ?_, q⟩
  have h1 := X.castoreOut hexec (by rw [hT]; exact hP q0 _ ha) ((hK.2 t0 _ ht).1 n (fun j => .int (f j))) (j := i) (by show (i < 0 ∨ (arrV _ _ _).slots.size ≤ _); rw [arrV_size]; exact Classical.byContradiction hout) (g := F0 m pc ls (.int x :: .int i :: .ref a :: rest)) rfl (rest := rest) rfl (by rw [hb]; exact hdg) t
  simp only [arrV_size] at h1
  exact h1 st
theorem vx_saldZ {D : va_G} {cl : List vw_C} {ws : va_W} {tys : List (ClassId × FieldType)} {a : Nat} (hexec : p.tables.exec = Jvm.exec) (hb : c.code = cc) (hK : va_K D cl tys s) (hP : va_P D cl ws H) (q0 t0 : Nat) {cA : ClassId} {n : Nat} {f : Nat → Int32} (ha : ws[q0]? = some (a, .inl (cA, n, .inl f))) (ht : tys[t0]? = some (cA, .short)) {i : Int32} (hout : ¬ vp_in i n) (hdg : decode cc pc = .ok (.saload, 1))
    (k : ∀ tx : String, tx = (toString "Index " ++ toString i ++ toString " out of bounds for length " ++ toString n : String) → vx_Note p l e R s m args below meth c H locs cells slots Q (F0 m pc ls rest) "java/lang/ArrayIndexOutOfBoundsException" tx) : W p l e R s m args below meth c H locs cells slots Q (F0 m pc ls (.int i :: .ref a :: rest)) := by
  intro T hT X
  obtain ⟨t, st, q⟩ := k _ rfl T hT X
  refine ⟨t, ?_, q⟩
  have h1 := X.saloadOut hexec (by rw [hT]; exact hP q0 _ ha) ((hK.2 t0 _ ht).1 n (fun j => .int (f j))) (j := i) (by show (i < 0 ∨ (arrV _ _ _).slots.size ≤ _); rw [arrV_size]; exact Classical.byContradiction hout) (g := F0 m pc ls (.int i :: .ref a :: rest)) rfl (rest := rest) rfl (by rw [hb]; exact hdg) t
  simp only [arrV_size] at h1
  exact h1 st
theorem vx_sastZ {D : va_G} {cl : List vw_C} {ws : va_W} {tys : List (ClassId × FieldType)} {a : Nat} (hexec : p.tables.exec = Jvm.exec) (hb : c.code = cc) (hK : va_K D cl tys s) (hP : va_P D cl ws H) (q0 t0 : Nat) {cA : ClassId} {n : Nat} {f : Nat → Int32} (ha : ws[q0]? = some (a, .inl (cA, n, .inl f))) (ht : tys[t0]? = some (cA, .short)) {i : Int32} {x : Int32} (hout : ¬ vp_in i n) (hdg : decode cc pc = .ok (.sastore, 1))
    (k : ∀ tx : String, tx = (toString "Index " ++ toString i ++ toString " out of bounds for length " ++ toString n : String) → vx_Note p l e R s m args below meth c H locs cells slots Q (F0 m pc ls rest) "java/lang/ArrayIndexOutOfBoundsException" tx) : W p l e R s m args below meth c H locs cells slots Q (F0 m pc ls (.int x :: .int i :: .ref a :: rest)) := by
  intro T hT X
  obtain ⟨t, st, q⟩ := k _ rfl T hT X
  refine ⟨t, ?_, q⟩
  have h1 := X.sastoreOut hexec (by rw [hT]; exact hP q0 _ ha) ((hK.2 t0 _ ht).1 n (fun j => .int (f j))) (j := i) (by show (i < 0 ∨ (arrV _ _ _).slots.size ≤ _); rw [arrV_size]; exact Classical.byContradiction hout) (g := F0 m pc ls (.int x :: .int i :: .ref a :: rest)) rfl (rest := rest) rfl (by rw [hb]; exact hdg) t
  simp only [arrV_size] at h1
  exact h1 st
theorem vx_laldZ {D : va_G} {cl : List vw_C} {ws : va_W} {tys : List (ClassId × FieldType)} {a : Nat} (hexec : p.tables.exec = Jvm.exec) (hb : c.code = cc) (hK : va_K D cl tys s) (hP : va_P D cl ws H) (q0 t0 : Nat) {cA : ClassId} {n : Nat} {f : Nat → Int64} (ha : ws[q0]? = some (a, .inl (cA, n, .inr (.inl f)))) (ht : tys[t0]? = some (cA, .long)) {i : Int32} (hout : ¬ vp_in i n) (hdg : decode cc pc = .ok (.laload, 1))
    (k : ∀ tx : String, tx = (toString "Index " ++ toString i ++ toString " out of bounds for length " ++ toString n : String) → vx_Note p l e R s m args below meth c H locs cells slots Q (F0 m pc ls rest) "java/lang/ArrayIndexOutOfBoundsException" tx) : W p l e R s m args below meth c H locs cells slots Q (F0 m pc ls (.int i :: .ref a :: rest)) := by
  intro T hT X
  obtain ⟨t, st, q⟩ := k _ rfl T hT X
  refine ⟨t, ?_, q⟩
  have h1 := X.laloadOut hexec (by rw [hT]; exact hP q0 _ ha) ((hK.2 t0 _ ht).1 n (fun j => .long (f j))) (j := i) (by show (i < 0 ∨ (arrV _ _ _).slots.size ≤ _); rw [arrV_size]; exact Classical.byContradiction hout) (g := F0 m pc ls (.int i :: .ref a :: rest)) rfl (rest := rest) rfl (by rw [hb]; exact hdg) t
  simp only [arrV_size] at h1
  exact h1 st
theorem vx_lastZ {D : va_G} {cl : List vw_C} {ws : va_W} {tys : List (ClassId × FieldType)} {a : Nat} (hexec : p.tables.exec = Jvm.exec) (hb : c.code = cc) (hK : va_K D cl tys s) (hP : va_P D cl ws H) (q0 t0 : Nat) {cA : ClassId} {n : Nat} {f : Nat → Int64} (ha : ws[q0]? = some (a, .inl (cA, n, .inr (.inl f)))) (ht : tys[t0]? = some (cA, .long)) {i : Int32} {x : Int64} (hout : ¬ vp_in i n) (hdg : decode cc pc = .ok (.lastore, 1))
    (k : ∀ tx : String, tx = (toString "Index " ++ toString i ++ toString " out of bounds for length " ++ toString n : String) → vx_Note p l e R s m args below meth c H locs cells slots Q (F0 m pc ls rest) "java/lang/ArrayIndexOutOfBoundsException" tx) : W p l e R s m args below meth c H locs cells slots Q (F0 m pc ls (.long x :: .int i :: .ref a :: rest)) := by
  intro T hT X
  obtain ⟨t, st, q⟩ := k _ rfl T hT X
  refine ⟨t, ?_, q⟩
  have h1 := X.lastoreOut hexec (by rw [hT]; exact hP q0 _ ha) ((hK.2 t0 _ ht).1 n (fun j => .long (f j))) (j := i) (by show (i < 0 ∨ (arrV _ _ _).slots.size ≤ _); rw [arrV_size]; exact Classical.byContradiction hout) (g := F0 m pc ls (.long x :: .int i :: .ref a :: rest)) rfl (rest := rest) rfl (by rw [hb]; exact hdg) t
  simp only [arrV_size] at h1
  exact h1 st
theorem vx_faldZ {D : va_G} {cl : List vw_C} {ws : va_W} {tys : List (ClassId × FieldType)} {a : Nat} (hexec : p.tables.exec = Jvm.exec) (hb : c.code = cc) (hK : va_K D cl tys s) (hP : va_P D cl ws H) (q0 t0 : Nat) {cA : ClassId} {n : Nat} {f : Nat → UInt32} (ha : ws[q0]? = some (a, .inl (cA, n, .inr (.inr (.inl f))))) (ht : tys[t0]? = some (cA, .float)) {i : Int32} (hout : ¬ vp_in i n) (hdg : decode cc pc = .ok (.faload, 1))
    (k : ∀ tx : String, tx = (toString "Index " ++ toString i ++ toString " out of bounds for length " ++ toString n : String) → vx_Note p l e R s m args below meth c H locs cells slots Q (F0 m pc ls rest) "java/lang/ArrayIndexOutOfBoundsException" tx) : W p l e R s m args below meth c H locs cells slots Q (F0 m pc ls (.int i :: .ref a :: rest)) := by
  intro T hT X
  obtain ⟨t, st, q⟩ := k _ rfl T hT X
  refine ⟨t, ?_, q⟩
  have h1 := X.faloadOut hexec (by rw [hT]; exact hP q0 _ ha) ((hK.2 t0 _ ht).1 n (fun j => .float (f j))) (j := i) (by show (i < 0 ∨ (arrV _ _ _).slots.size ≤ _); rw [arrV_size]; exact Classical.byContradiction hout) (g := F0 m pc ls (.int i :: .ref a :: rest)) rfl (rest := rest) rfl (by rw [hb]; exact hdg) t
  simp only [arrV_size] at h1
  exact h1 st
theorem vx_fastZ {D : va_G} {cl : List vw_C} {ws : va_W} {tys : List (ClassId × FieldType)} {a : Nat} (hexec : p.tables.exec = Jvm.exec) (hb : c.code = cc) (hK : va_K D cl tys s) (hP : va_P D cl ws H) (q0 t0 : Nat) {cA : ClassId} {n : Nat} {f : Nat → UInt32} (ha : ws[q0]? = some (a, .inl (cA, n, .inr (.inr (.inl f))))) (ht : tys[t0]? = some (cA, .float)) {i : Int32} {x : UInt32} (hout : ¬ vp_in i n) (hdg : decode cc pc = .ok (.fastore, 1))
    (k : ∀ tx : String, tx = (toString "Index " ++ toString i ++ toString " out of bounds for length " ++ toString n : String) → vx_Note p l e R s m args below meth c H locs cells slots Q (F0 m pc ls rest) "java/lang/ArrayIndexOutOfBoundsException" tx) : W p l e R s m args below meth c H locs cells slots Q (F0 m pc ls (.float x :: .int i :: .ref a :: rest)) := by
  intro T hT X
  obtain ⟨t, st, q⟩ := k _ rfl T hT X
  refine ⟨t, ?_, q⟩
  have h1 := X.fastoreOut hexec (by rw [hT]; exact hP q0 _ ha) ((hK.2 t0 _ ht).1 n (fun j => .float (f j))) (j := i) (by show (i < 0 ∨ (arrV _ _ _).slots.size ≤ _); rw [arrV_size]; exact Classical.byContradiction hout) (g := F0 m pc ls (.float x :: .int i :: .ref a :: rest)) rfl (rest := rest) rfl (by rw [hb]; exact hdg) t
  simp only [arrV_size] at h1
  exact h1 st
theorem vx_daldZ {D : va_G} {cl : List vw_C} {ws : va_W} {tys : List (ClassId × FieldType)} {a : Nat} (hexec : p.tables.exec = Jvm.exec) (hb : c.code = cc) (hK : va_K D cl tys s) (hP : va_P D cl ws H) (q0 t0 : Nat) {cA : ClassId} {n : Nat} {f : Nat → UInt64} (ha : ws[q0]? = some (a, .inl (cA, n, .inr (.inr (.inr (.inl f)))))) (ht : tys[t0]? = some (cA, .double)) {i : Int32} (hout : ¬ vp_in i n) (hdg : decode cc pc = .ok (.daload, 1))
    (k : ∀ tx : String, tx = (toString "Index " ++ toString i ++ toString " out of bounds for length " ++ toString n : String) → vx_Note p l e R s m args below meth c H locs cells slots Q (F0 m pc ls rest) "java/lang/ArrayIndexOutOfBoundsException" tx) : W p l e R s m args below meth c H locs cells slots Q (F0 m pc ls (.int i :: .ref a :: rest)) := by
  intro T hT X
  obtain ⟨t, st, q⟩ := k _ rfl T hT X
  refine ⟨t, ?_, q⟩
  have h1 := X.daloadOut hexec (by rw [hT]; exact hP q0 _ ha) ((hK.2 t0 _ ht).1 n (fun j => .double (f j))) (j := i) (by show (i < 0 ∨ (arrV _ _ _).slots.size ≤ _); rw [arrV_size]; exact Classical.byContradiction hout) (g := F0 m pc ls (.int i :: .ref a :: rest)) rfl (rest := rest) rfl (by rw [hb]; exact hdg) t
  simp only [arrV_size] at h1
  exact h1 st
theorem vx_dastZ {D : va_G} {cl : List vw_C} {ws : va_W} {tys : List (ClassId × FieldType)} {a : Nat} (hexec : p.tables.exec = Jvm.exec) (hb : c.code = cc) (hK : va_K D cl tys s) (hP : va_P D cl ws H) (q0 t0 : Nat) {cA : ClassId} {n : Nat} {f : Nat → UInt64} (ha : ws[q0]? = some (a, .inl (cA, n, .inr (.inr (.inr (.inl f)))))) (ht : tys[t0]? = some (cA, .double)) {i : Int32} {x : UInt64} (hout : ¬ vp_in i n) (hdg : decode cc pc = .ok (.dastore, 1))
    (k : ∀ tx : String, tx = (toString "Index " ++ toString i ++ toString " out of bounds for length " ++ toString n : String) → vx_Note p l e R s m args below meth c H locs cells slots Q (F0 m pc ls rest) "java/lang/ArrayIndexOutOfBoundsException" tx) : W p l e R s m args below meth c H locs cells slots Q (F0 m pc ls (.double x :: .int i :: .ref a :: rest)) := by
  intro T hT X
  obtain ⟨t, st, q⟩ := k _ rfl T hT X
  refine ⟨t, ?_, q⟩
  have h1 := X.dastoreOut hexec (by rw [hT]; exact hP q0 _ ha) ((hK.2 t0 _ ht).1 n (fun j => .double (f j))) (j := i) (by show (i < 0 ∨ (arrV _ _ _).slots.size ≤ _); rw [arrV_size]; exact Classical.byContradiction hout) (g := F0 m pc ls (.double x :: .int i :: .ref a :: rest)) rfl (rest := rest) rfl (by rw [hb]; exact hdg) t
  simp only [arrV_size] at h1
  exact h1 st
theorem vx_arraylengthN (hexec : p.tables.exec = Jvm.exec) (hb : c.code = cc) (hdg : decode cc pc = .ok (.arraylength, 1)) (k : vx_NoteN p l e R s m args below meth c H locs cells slots Q (F0 m pc ls rest)) : W p l e R s m args below meth c H locs cells slots Q (F0 m pc ls (.null :: rest)) := by
  intro T hT X
  obtain ⟨t, st, q⟩ := k T hT X
  exact ⟨t, X.arraylengthNull hexec (g := F0 m pc ls (.null :: rest)) rfl (rest := rest) rfl (by rw [hb]; exact hdg) t st, q⟩
theorem vx_ialoadN (hexec : p.tables.exec = Jvm.exec) (hb : c.code = cc) {i : Int32} (hdg : decode cc pc = .ok (.iaload, 1)) (k : vx_NoteN p l e R s m args below meth c H locs cells slots Q (F0 m pc ls rest)) : W p l e R s m args below meth c H locs cells slots Q (F0 m pc ls (.int i :: .null :: rest)) := by
  intro T hT X
  obtain ⟨t, st, q⟩ := k T hT X
  exact ⟨t, X.ialoadNull hexec (g := F0 m pc ls (.int i :: .null :: rest)) rfl (rest := rest) rfl (by rw [hb]; exact hdg) t st, q⟩
theorem vx_laloadN (hexec : p.tables.exec = Jvm.exec) (hb : c.code = cc) {i : Int32} (hdg : decode cc pc = .ok (.laload, 1)) (k : vx_NoteN p l e R s m args below meth c H locs cells slots Q (F0 m pc ls rest)) : W p l e R s m args below meth c H locs cells slots Q (F0 m pc ls (.int i :: .null :: rest)) := by
  intro T hT X
  obtain ⟨t, st, q⟩ := k T hT X
  exact ⟨t, X.laloadNull hexec (g := F0 m pc ls (.int i :: .null :: rest)) rfl (rest := rest) rfl (by rw [hb]; exact hdg) t st, q⟩
theorem vx_faloadN (hexec : p.tables.exec = Jvm.exec) (hb : c.code = cc) {i : Int32} (hdg : decode cc pc = .ok (.faload, 1)) (k : vx_NoteN p l e R s m args below meth c H locs cells slots Q (F0 m pc ls rest)) : W p l e R s m args below meth c H locs cells slots Q (F0 m pc ls (.int i :: .null :: rest)) := by
  intro T hT X
  obtain ⟨t, st, q⟩ := k T hT X
  exact ⟨t, X.faloadNull hexec (g := F0 m pc ls (.int i :: .null :: rest)) rfl (rest := rest) rfl (by rw [hb]; exact hdg) t st, q⟩
theorem vx_daloadN (hexec : p.tables.exec = Jvm.exec) (hb : c.code = cc) {i : Int32} (hdg : decode cc pc = .ok (.daload, 1)) (k : vx_NoteN p l e R s m args below meth c H locs cells slots Q (F0 m pc ls rest)) : W p l e R s m args below meth c H locs cells slots Q (F0 m pc ls (.int i :: .null :: rest)) := by
  intro T hT X
  obtain ⟨t, st, q⟩ := k T hT X
  exact ⟨t, X.daloadNull hexec (g := F0 m pc ls (.int i :: .null :: rest)) rfl (rest := rest) rfl (by rw [hb]; exact hdg) t st, q⟩
theorem vx_aaloadN (hexec : p.tables.exec = Jvm.exec) (hb : c.code = cc) {i : Int32} (hdg : decode cc pc = .ok (.aaload, 1)) (k : vx_NoteN p l e R s m args below meth c H locs cells slots Q (F0 m pc ls rest)) : W p l e R s m args below meth c H locs cells slots Q (F0 m pc ls (.int i :: .null :: rest)) := by
  intro T hT X
  obtain ⟨t, st, q⟩ := k T hT X
  exact ⟨t, X.aaloadNull hexec (g := F0 m pc ls (.int i :: .null :: rest)) rfl (rest := rest) rfl (by rw [hb]; exact hdg) t st, q⟩
theorem vx_baloadN (hexec : p.tables.exec = Jvm.exec) (hb : c.code = cc) {i : Int32} (hdg : decode cc pc = .ok (.baload, 1)) (k : vx_NoteN p l e R s m args below meth c H locs cells slots Q (F0 m pc ls rest)) : W p l e R s m args below meth c H locs cells slots Q (F0 m pc ls (.int i :: .null :: rest)) := by
  intro T hT X
  obtain ⟨t, st, q⟩ := k T hT X
  exact ⟨t, X.baloadNull hexec (g := F0 m pc ls (.int i :: .null :: rest)) rfl (rest := rest) rfl (by rw [hb]; exact hdg) t st, q⟩
theorem vx_caloadN (hexec : p.tables.exec = Jvm.exec) (hb : c.code = cc) {i : Int32} (hdg : decode cc pc = .ok (.caload, 1)) (k : vx_NoteN p l e R s m args below meth c H locs cells slots Q (F0 m pc ls rest)) : W p l e R s m args below meth c H locs cells slots Q (F0 m pc ls (.int i :: .null :: rest)) := by
  intro T hT X
  obtain ⟨t, st, q⟩ := k T hT X
  exact ⟨t, X.caloadNull hexec (g := F0 m pc ls (.int i :: .null :: rest)) rfl (rest := rest) rfl (by rw [hb]; exact hdg) t st, q⟩
theorem vx_saloadN (hexec : p.tables.exec = Jvm.exec) (hb : c.code = cc) {i : Int32} (hdg : decode cc pc = .ok (.saload, 1)) (k : vx_NoteN p l e R s m args below meth c H locs cells slots Q (F0 m pc ls rest)) : W p l e R s m args below meth c H locs cells slots Q (F0 m pc ls (.int i :: .null :: rest)) := by
  intro T hT X
  obtain ⟨t, st, q⟩ := k T hT X
  exact ⟨t, X.saloadNull hexec (g := F0 m pc ls (.int i :: .null :: rest)) rfl (rest := rest) rfl (by rw [hb]; exact hdg) t st, q⟩
theorem vx_iastoreN (hexec : p.tables.exec = Jvm.exec) (hb : c.code = cc) {x : Int32} {i : Int32} (hdg : decode cc pc = .ok (.iastore, 1)) (k : vx_NoteN p l e R s m args below meth c H locs cells slots Q (F0 m pc ls rest)) : W p l e R s m args below meth c H locs cells slots Q (F0 m pc ls (.int x :: .int i :: .null :: rest)) := by
  intro T hT X
  obtain ⟨t, st, q⟩ := k T hT X
  exact ⟨t, X.iastoreNull hexec (g := F0 m pc ls (.int x :: .int i :: .null :: rest)) rfl (rest := rest) rfl (by rw [hb]; exact hdg) t st, q⟩
theorem vx_lastoreN (hexec : p.tables.exec = Jvm.exec) (hb : c.code = cc) {x : Int64} {i : Int32} (hdg : decode cc pc = .ok (.lastore, 1)) (k : vx_NoteN p l e R s m args below meth c H locs cells slots Q (F0 m pc ls rest)) : W p l e R s m args below meth c H locs cells slots Q (F0 m pc ls (.long x :: .int i :: .null :: rest)) := by
  intro T hT X
  obtain ⟨t, st, q⟩ := k T hT X
  exact ⟨t, X.lastoreNull hexec (g := F0 m pc ls (.long x :: .int i :: .null :: rest)) rfl (rest := rest) rfl (by rw [hb]; exact hdg) t st, q⟩
theorem vx_fastoreN (hexec : p.tables.exec = Jvm.exec) (hb : c.code = cc) {x : UInt32} {i : Int32} (hdg : decode cc pc = .ok (.fastore, 1)) (k : vx_NoteN p l e R s m args below meth c H locs cells slots Q (F0 m pc ls rest)) : W p l e R s m args below meth c H locs cells slots Q (F0 m pc ls (.float x :: .int i :: .null :: rest)) := by
  intro T hT X
  obtain ⟨t, st, q⟩ := k T hT X
  exact ⟨t, X.fastoreNull hexec (g := F0 m pc ls (.float x :: .int i :: .null :: rest)) rfl (rest := rest) rfl (by rw [hb]; exact hdg) t st, q⟩
theorem vx_dastoreN (hexec : p.tables.exec = Jvm.exec) (hb : c.code = cc) {x : UInt64} {i : Int32} (hdg : decode cc pc = .ok (.dastore, 1)) (k : vx_NoteN p l e R s m args below meth c H locs cells slots Q (F0 m pc ls rest)) : W p l e R s m args below meth c H locs cells slots Q (F0 m pc ls (.double x :: .int i :: .null :: rest)) := by
  intro T hT X
  obtain ⟨t, st, q⟩ := k T hT X
  exact ⟨t, X.dastoreNull hexec (g := F0 m pc ls (.double x :: .int i :: .null :: rest)) rfl (rest := rest) rfl (by rw [hb]; exact hdg) t st, q⟩
theorem vx_bastoreN (hexec : p.tables.exec = Jvm.exec) (hb : c.code = cc) {x : Int32} {i : Int32} (hdg : decode cc pc = .ok (.bastore, 1)) (k : vx_NoteN p l e R s m args below meth c H locs cells slots Q (F0 m pc ls rest)) : W p l e R s m args below meth c H locs cells slots Q (F0 m pc ls (.int x :: .int i :: .null :: rest)) := by
  intro T hT X
  obtain ⟨t, st, q⟩ := k T hT X
  exact ⟨t, X.bastoreNull hexec (g := F0 m pc ls (.int x :: .int i :: .null :: rest)) rfl (rest := rest) rfl (by rw [hb]; exact hdg) t st, q⟩
theorem vx_castoreN (hexec : p.tables.exec = Jvm.exec) (hb : c.code = cc) {x : Int32} {i : Int32} (hdg : decode cc pc = .ok (.castore, 1)) (k : vx_NoteN p l e R s m args below meth c H locs cells slots Q (F0 m pc ls rest)) : W p l e R s m args below meth c H locs cells slots Q (F0 m pc ls (.int x :: .int i :: .null :: rest)) := by
  intro T hT X
  obtain ⟨t, st, q⟩ := k T hT X
  exact ⟨t, X.castoreNull hexec (g := F0 m pc ls (.int x :: .int i :: .null :: rest)) rfl (rest := rest) rfl (by rw [hb]; exact hdg) t st, q⟩
theorem vx_sastoreN (hexec : p.tables.exec = Jvm.exec) (hb : c.code = cc) {x : Int32} {i : Int32} (hdg : decode cc pc = .ok (.sastore, 1)) (k : vx_NoteN p l e R s m args below meth c H locs cells slots Q (F0 m pc ls rest)) : W p l e R s m args below meth c H locs cells slots Q (F0 m pc ls (.int x :: .int i :: .null :: rest)) := by
  intro T hT X
  obtain ⟨t, st, q⟩ := k T hT X
  exact ⟨t, X.sastoreNull hexec (g := F0 m pc ls (.int x :: .int i :: .null :: rest)) rfl (rest := rest) rfl (by rw [hb]; exact hdg) t st, q⟩
theorem vx_invokeN {own C : String} {index maxL : Nat} {y : MethodName} {bytes : ByteArray} {ret : Option FieldType} (hexec : p.tables.exec = Jvm.exec) (hb : c.code = cc) (hown : s.vm.findClass own = some m.cls) (hlink : (Cond.methodLink own index y).before args s = true) (hinst : (Cond.instanceMethod y).before args s = true) (hcode : (Cond.code y bytes maxL ret).before args s = true) (hsel : (Cond.selects C y y).before args s = true)
    (hx : y.cls ≠ "java/lang/invoke/MethodHandle" ∧ y.cls ≠ "java/lang/invoke/VarHandle") {As : List Value} (hlen : (parseMethodDescriptor y.desc).map (fun d => d.parameters.length) = some As.length) (hdg : decode cc pc = .ok (.invokevirtual index, 3))
    (k : vx_NoteN p l e R s m args below meth c H locs cells slots Q (F0 m pc ls rest)) {st0 : List Value} (hst : st0 = As.reverse ++ .null :: rest) : W p l e R s m args below meth c H locs cells slots Q (F0 m pc ls st0) := by
  intro T hT X
  obtain ⟨r0, r, hn, hrm, hstR, hsigR⟩ := va_Decl.of hinst hcode
  obtain ⟨c2, r2, m2, q1, q2, q3, q4, kP, hkP, hkPi⟩ := Cond.selects_spec hsel
  cases hn.symm.trans q3
  have hl9 : As.length = r.sig.parameters.length := by
    rw [hsigR] at hlen
    exact (Option.some.inj hlen).symm
  obtain ⟨vm', X1, st1⟩ := X.invokevirtualNull hexec hown hlink hn hrm hstR hkP hkPi hx (g := F0 m pc ls st0) rfl (argsL := As) (rest := rest) hl9 hst (by rw [hb]; exact hdg)
  obtain ⟨t, st, q⟩ := k (T.setVm vm') hT X1
  exact ⟨t, st1 t st, q⟩
theorem vx_newarrayZ {atype : ArrayType} (hexec : p.tables.exec = Jvm.exec) (hb : c.code = cc) {n : Int32} (h0 : n < 0) (hdg : decode cc pc = .ok (.newarray atype, 2)) (k : ∀ tx : String, tx = toString n → vx_Note p l e R s m args below meth c H locs cells slots Q (F0 m pc ls rest) "java/lang/NegativeArraySizeException" tx) : W p l e R s m args below meth c H locs cells slots Q (F0 m pc ls (.int n :: rest)) := by
  intro T hT X
  obtain ⟨t, st, q⟩ := k _ rfl T hT X
  exact ⟨t, X.newarrayNegative hexec (g := F0 m pc ls (.int n :: rest)) rfl h0 (rest := rest) rfl (by rw [hb]; exact hdg) t st, q⟩
end
end VXM
/-! ===== END ===== -/
end
section
def RX0 : String := "Lineclock$Car"
def TX0 : u_T := fun k => match k with
  | 0 => ("Lineclock$Car", "number", "I", true)
  | 1 => ("Lineclock$Car", "trace", "LLineclock$Trace;", true)
  | 2 => ("Lineclock$Car", "wants", "I", false)
  | 3 => ("Lineclock$Car", "state", "C", false)
  | 4 => ("Lineclock$Car", "station", "I", false)
  | 5 => ("Lineclock$Car", "ticksToGo", "I", false)
  | 6 => ("Lineclock$Car", "back", "Z", false)
  | 7 => ("Lineclock$Car", "openFaults", "I", false)
  | 8 => ("Lineclock$Car", "entered", "I", false)
  | 9 => ("Lineclock$Car", "firstTick", "I", false)
  | _ => ("Lineclock$Car", "lastTick", "I", false)
def tyX0 : Nat → FieldType := fun k => match k with
  | 0 => .int
  | 1 => .object "Lineclock$Trace"
  | 2 => .int
  | 3 => .char
  | 4 => .int
  | 5 => .int
  | 6 => .boolean
  | 7 => .int
  | 8 => .int
  | 9 => .int
  | _ => .int
abbrev wsX00 : List Cond := u_ws RX0 TX0 11
theorem nmX0 : ∀ a, a < 11 → ∀ b, b < 11 → a ≠ b → (TX0 a).2.1 ≠ (TX0 b).2.1 := by decide +kernel
theorem tyX0_ok : ∀ k, k < 11 → parseFieldDescriptor (TX0 k).2.2.1 = some (tyX0 k) := by decide +kernel
abbrev cX0_init : ByteArray := prog_2_method_1_code
def yX0_init : MethodName := ⟨RX0, "<init>", "(ILLineclock$Trace;)V"⟩
abbrev cX0_copyFrom : ByteArray := prog_2_method_2_code
def yX0_copyFrom : MethodName := ⟨RX0, "copyFrom", "(LLineclock$Car;)V"⟩
abbrev cX0_isWanting : ByteArray := prog_2_method_3_code
def yX0_isWanting : MethodName := ⟨RX0, "isWanting", "(I)Z"⟩
abbrev cX0_hasEntered : ByteArray := prog_2_method_4_code
def yX0_hasEntered : MethodName := ⟨RX0, "hasEntered", "(I)Z"⟩
abbrev cX0_isFaulty : ByteArray := prog_2_method_5_code
def yX0_isFaulty : MethodName := ⟨RX0, "isFaulty", "(I)Z"⟩
abbrev cX0_openFault : ByteArray := prog_2_method_6_code
def yX0_openFault : MethodName := ⟨RX0, "openFault", "(I)V"⟩
abbrev cX0_closeFault : ByteArray := prog_2_method_7_code
def yX0_closeFault : MethodName := ⟨RX0, "closeFault", "(I)V"⟩
abbrev cX0_faultCount : ByteArray := prog_2_method_8_code
def yX0_faultCount : MethodName := ⟨RX0, "faultCount", "()I"⟩
abbrev cX0_lowestFault : ByteArray := prog_2_method_9_code
def yX0_lowestFault : MethodName := ⟨RX0, "lowestFault", "()I"⟩
abbrev cX0_stand : ByteArray := prog_2_method_10_code
def yX0_stand : MethodName := ⟨RX0, "stand", "(IIZ)V"⟩
abbrev cX0_goAway : ByteArray := prog_2_method_11_code
def yX0_goAway : MethodName := ⟨RX0, "goAway", "(C)V"⟩
def RX1 : String := "Lineclock$Line"
def TX1 : u_T := fun k => match k with
  | 0 => ("Lineclock$Line", "places", "[LLineclock$Station;", true)
  | 1 => ("Lineclock$Line", "known", "[LLineclock$Car;", true)
  | 2 => ("Lineclock$Line", "store", "[I", true)
  | 3 => ("Lineclock$Line", "waiting", "LLineclock$Row;", true)
  | 4 => ("Lineclock$Line", "loop", "LLineclock$Row;", true)
  | 5 => ("Lineclock$Line", "gone", "LLineclock$Row;", true)
  | 6 => ("Lineclock$Line", "stationCount", "I", false)
  | 7 => ("Lineclock$Line", "carCount", "I", false)
  | 8 => ("Lineclock$Line", "time", "I", false)
  | _ => ("Lineclock$Line", "period", "I", false)
def tyX1 : Nat → FieldType := fun k => match k with
  | 0 => .array (.object "Lineclock$Station")
  | 1 => .array (.object "Lineclock$Car")
  | 2 => .array .int
  | 3 => .object "Lineclock$Row"
  | 4 => .object "Lineclock$Row"
  | 5 => .object "Lineclock$Row"
  | 6 => .int
  | 7 => .int
  | 8 => .int
  | _ => .int
abbrev wsX10 : List Cond := u_ws RX1 TX1 10
theorem nmX1 : ∀ a, a < 10 → ∀ b, b < 10 → a ≠ b → (TX1 a).2.1 ≠ (TX1 b).2.1 := by decide +kernel
theorem tyX1_ok : ∀ k, k < 10 → parseFieldDescriptor (TX1 k).2.2.1 = some (tyX1 k) := by decide +kernel
abbrev cX1_init : ByteArray := prog_3_method_1_code
def yX1_init : MethodName := ⟨RX1, "<init>", "(Z)V"⟩
abbrev cX1_copyFrom : ByteArray := prog_3_method_2_code
def yX1_copyFrom : MethodName := ⟨RX1, "copyFrom", "(LLineclock$Line;)V"⟩
abbrev cX1_copyStation : ByteArray := prog_3_method_3_code
def yX1_copyStation : MethodName := ⟨RX1, "copyStation", "(LLineclock$Station;LLineclock$Station;)V"⟩
abbrev cX1_copyCar : ByteArray := prog_3_method_4_code
def yX1_copyCar : MethodName := ⟨RX1, "copyCar", "(LLineclock$Car;LLineclock$Car;)V"⟩
abbrev cX1_findStation : ByteArray := prog_3_method_5_code
def yX1_findStation : MethodName := ⟨RX1, "findStation", "(I)LLineclock$Station;"⟩
abbrev cX1_findCar : ByteArray := prog_3_method_6_code
def yX1_findCar : MethodName := ⟨RX1, "findCar", "(I)LLineclock$Car;"⟩
abbrev cX1_unitsOf : ByteArray := prog_3_method_7_code
def yX1_unitsOf : MethodName := ⟨RX1, "unitsOf", "(I)I"⟩
abbrev cX1_changeUnits : ByteArray := prog_3_method_8_code
def yX1_changeUnits : MethodName := ⟨RX1, "changeUnits", "(II)V"⟩
abbrev cX1_appendStation : ByteArray := prog_3_method_9_code
def yX1_appendStation : MethodName := ⟨RX1, "appendStation", "(IIII)I"⟩
abbrev cX1_appendCar : ByteArray := prog_3_method_10_code
def yX1_appendCar : MethodName := ⟨RX1, "appendCar", "(I)I"⟩
abbrev cX1_hasGone : ByteArray := prog_3_method_11_code
def yX1_hasGone : MethodName := ⟨RX1, "hasGone", "(I)Z"⟩
abbrev cX1_ticksToRound : ByteArray := prog_3_method_12_code
def yX1_ticksToRound : MethodName := ⟨RX1, "ticksToRound", "()I"⟩
abbrev cX1_ticksOfGone : ByteArray := prog_3_method_13_code
def yX1_ticksOfGone : MethodName := ⟨RX1, "ticksOfGone", "()J"⟩
abbrev cX1_totalOf : ByteArray := prog_3_method_14_code
def yX1_totalOf : MethodName := ⟨RX1, "totalOf", "(C)I"⟩
abbrev cX1_passTick : ByteArray := prog_3_method_15_code
def yX1_passTick : MethodName := ⟨RX1, "passTick", "()V"⟩
abbrev cX1_passQuietTicks : ByteArray := prog_3_method_16_code
def yX1_passQuietTicks : MethodName := ⟨RX1, "passQuietTicks", "(I)V"⟩
abbrev cX1_quietTicks : ByteArray := prog_3_method_17_code
def yX1_quietTicks : MethodName := ⟨RX1, "quietTicks", "()I"⟩
abbrev cX1_quietTicksAt : ByteArray := prog_3_method_18_code
def yX1_quietTicksAt : MethodName := ⟨RX1, "quietTicksAt", "(I)I"⟩
abbrev cX1_fillShelves : ByteArray := prog_3_method_19_code
def yX1_fillShelves : MethodName := ⟨RX1, "fillShelves", "()V"⟩
abbrev cX1_countDown : ByteArray := prog_3_method_20_code
def yX1_countDown : MethodName := ⟨RX1, "countDown", "(I)V"⟩
abbrev cX1_standingAt : ByteArray := prog_3_method_21_code
def yX1_standingAt : MethodName := ⟨RX1, "standingAt", "(I)LLineclock$Car;"⟩
abbrev cX1_isFree : ByteArray := prog_3_method_22_code
def yX1_isFree : MethodName := ⟨RX1, "isFree", "(I)Z"⟩
abbrev cX1_goesAlong : ByteArray := prog_3_method_23_code
def yX1_goesAlong : MethodName := ⟨RX1, "goesAlong", "(LLineclock$Car;)Z"⟩
abbrev cX1_isHeldUp : ByteArray := prog_3_method_24_code
def yX1_isHeldUp : MethodName := ⟨RX1, "isHeldUp", "(LLineclock$Car;)Z"⟩
abbrev cX1_moveOn : ByteArray := prog_3_method_25_code
def yX1_moveOn : MethodName := ⟨RX1, "moveOn", "(I)V"⟩
abbrev cX1_enter : ByteArray := prog_3_method_26_code
def yX1_enter : MethodName := ⟨RX1, "enter", "(LLineclock$Car;IZ)V"⟩
abbrev cX1_leave : ByteArray := prog_3_method_27_code
def yX1_leave : MethodName := ⟨RX1, "leave", "(LLineclock$Car;)V"⟩
abbrev cX1_comeToLoop : ByteArray := prog_3_method_28_code
def yX1_comeToLoop : MethodName := ⟨RX1, "comeToLoop", "(LLineclock$Car;)V"⟩
abbrev cX1_note : ByteArray := prog_3_method_29_code
def yX1_note : MethodName := ⟨RX1, "note", "(LLineclock$Car;C)V"⟩
abbrev cX1_canEnterFromLoop : ByteArray := prog_3_method_30_code
def yX1_canEnterFromLoop : MethodName := ⟨RX1, "canEnterFromLoop", "()Z"⟩
abbrev cX1_enterFromLoop : ByteArray := prog_3_method_31_code
def yX1_enterFromLoop : MethodName := ⟨RX1, "enterFromLoop", "()V"⟩
abbrev cX1_canEnterFromWaiting : ByteArray := prog_3_method_32_code
def yX1_canEnterFromWaiting : MethodName := ⟨RX1, "canEnterFromWaiting", "()Z"⟩
abbrev cX1_enterFromWaiting : ByteArray := prog_3_method_33_code
def yX1_enterFromWaiting : MethodName := ⟨RX1, "enterFromWaiting", "()V"⟩
def RX2 : String := "Lineclock$Row"
def TX2 : u_T := fun k => match k with
  | 0 => ("Lineclock$Row", "members", "[I", true)
  | _ => ("Lineclock$Row", "size", "I", false)
def tyX2 : Nat → FieldType := fun k => match k with
  | 0 => .array .int
  | _ => .int
abbrev wsX20 : List Cond := u_ws RX2 TX2 2
theorem nmX2 : ∀ a, a < 2 → ∀ b, b < 2 → a ≠ b → (TX2 a).2.1 ≠ (TX2 b).2.1 := by decide +kernel
theorem tyX2_ok : ∀ k, k < 2 → parseFieldDescriptor (TX2 k).2.2.1 = some (tyX2 k) := by decide +kernel
abbrev cX2_init : ByteArray := prog_4_method_1_code
def yX2_init : MethodName := ⟨RX2, "<init>", "()V"⟩
abbrev cX2_has : ByteArray := prog_4_method_2_code
def yX2_has : MethodName := ⟨RX2, "has", "(I)Z"⟩
abbrev cX2_at : ByteArray := prog_4_method_3_code
def yX2_at : MethodName := ⟨RX2, "at", "(I)I"⟩
abbrev cX2_placeOf : ByteArray := prog_4_method_4_code
def yX2_placeOf : MethodName := ⟨RX2, "placeOf", "(I)I"⟩
abbrev cX2_append : ByteArray := prog_4_method_5_code
def yX2_append : MethodName := ⟨RX2, "append", "(I)V"⟩
abbrev cX2_removeAt : ByteArray := prog_4_method_6_code
def yX2_removeAt : MethodName := ⟨RX2, "removeAt", "(I)V"⟩
abbrev cX2_exchange : ByteArray := prog_4_method_7_code
def yX2_exchange : MethodName := ⟨RX2, "exchange", "(II)V"⟩
abbrev cX2_copyFrom : ByteArray := prog_4_method_8_code
def yX2_copyFrom : MethodName := ⟨RX2, "copyFrom", "(LLineclock$Row;)V"⟩
def RX3 : String := "Lineclock$Station"
def TX3 : u_T := fun k => match k with
  | 0 => ("Lineclock$Station", "takt", "I", false)
  | 1 => ("Lineclock$Station", "part", "I", false)
  | 2 => ("Lineclock$Station", "amount", "I", false)
  | 3 => ("Lineclock$Station", "room", "I", false)
  | 4 => ("Lineclock$Station", "shelf", "I", false)
  | 5 => ("Lineclock$Station", "car", "I", false)
  | 6 => ("Lineclock$Station", "lackCount", "I", false)
  | _ => ("Lineclock$Station", "taken", "J", false)
def tyX3 : Nat → FieldType := fun k => match k with
  | 0 => .int
  | 1 => .int
  | 2 => .int
  | 3 => .int
  | 4 => .int
  | 5 => .int
  | 6 => .int
  | _ => .long
abbrev wsX30 : List Cond := u_ws RX3 TX3 8
theorem nmX3 : ∀ a, a < 8 → ∀ b, b < 8 → a ≠ b → (TX3 a).2.1 ≠ (TX3 b).2.1 := by decide +kernel
theorem tyX3_ok : ∀ k, k < 8 → parseFieldDescriptor (TX3 k).2.2.1 = some (tyX3 k) := by decide +kernel
abbrev cX3_init : ByteArray := prog_5_method_1_code
def yX3_init : MethodName := ⟨RX3, "<init>", "()V"⟩
abbrev cX3_setUp : ByteArray := prog_5_method_2_code
def yX3_setUp : MethodName := ⟨RX3, "setUp", "(IIII)V"⟩
abbrev cX3_copyFrom : ByteArray := prog_5_method_3_code
def yX3_copyFrom : MethodName := ⟨RX3, "copyFrom", "(LLineclock$Station;)V"⟩
abbrev cX3_serve : ByteArray := prog_5_method_4_code
def yX3_serve : MethodName := ⟨RX3, "serve", "(LLineclock$Car;Z)C"⟩
def RX4 : String := "Lineclock$Trace"
def TX4 : u_T := fun k => match k with
  | 0 => ("Lineclock$Trace", "signs", "[C", false)
  | 1 => ("Lineclock$Trace", "length", "I", false)
  | _ => ("Lineclock$Trace", "totals", "[I", true)
def tyX4 : Nat → FieldType := fun k => match k with
  | 0 => .array .char
  | 1 => .int
  | _ => .array .int
abbrev wsX40 : List Cond := u_ws RX4 TX4 3
theorem nmX4 : ∀ a, a < 3 → ∀ b, b < 3 → a ≠ b → (TX4 a).2.1 ≠ (TX4 b).2.1 := by decide +kernel
theorem tyX4_ok : ∀ k, k < 3 → parseFieldDescriptor (TX4 k).2.2.1 = some (tyX4 k) := by decide +kernel
abbrev cX4_init : ByteArray := prog_6_method_1_code
def yX4_init : MethodName := ⟨RX4, "<init>", "()V"⟩
abbrev cX4_has : ByteArray := prog_6_method_2_code
def yX4_has : MethodName := ⟨RX4, "has", "(I)Z"⟩
abbrev cX4_signAt : ByteArray := prog_6_method_3_code
def yX4_signAt : MethodName := ⟨RX4, "signAt", "(I)C"⟩
abbrev cX4_append : ByteArray := prog_6_method_4_code
def yX4_append : MethodName := ⟨RX4, "append", "(C)V"⟩
abbrev cX4_totalOf : ByteArray := prog_6_method_5_code
def yX4_totalOf : MethodName := ⟨RX4, "totalOf", "(C)I"⟩
abbrev cX4_grow : ByteArray := prog_6_method_6_code
def yX4_grow : MethodName := ⟨RX4, "grow", "()V"⟩
def RX5 : String := "Lineclock"
def TX5 : u_T := fun k => match k with
  | 0 => ("Lineclock", "line", "LLineclock$Line;", true)
  | _ => ("Lineclock", "trial", "LLineclock$Line;", true)
def tyX5 : Nat → FieldType := fun k => match k with
  | 0 => .object "Lineclock$Line"
  | _ => .object "Lineclock$Line"
abbrev wsX50 : List Cond := u_ws RX5 TX5 2
theorem nmX5 : ∀ a, a < 2 → ∀ b, b < 2 → a ≠ b → (TX5 a).2.1 ≠ (TX5 b).2.1 := by decide +kernel
theorem tyX5_ok : ∀ k, k < 2 → parseFieldDescriptor (TX5 k).2.2.1 = some (tyX5 k) := by decide +kernel
abbrev cX5_init : ByteArray := prog_1_method_1_code
def yX5_init : MethodName := ⟨RX5, "<init>", "()V"⟩
abbrev cX5_addStation : ByteArray := prog_1_method_2_code
def yX5_addStation : MethodName := ⟨RX5, "addStation", "(IIII)I"⟩
abbrev cX5_supply : ByteArray := prog_1_method_3_code
def yX5_supply : MethodName := ⟨RX5, "supply", "(II)I"⟩
abbrev cX5_setPeriod : ByteArray := prog_1_method_4_code
def yX5_setPeriod : MethodName := ⟨RX5, "setPeriod", "(I)I"⟩
abbrev cX5_addCar : ByteArray := prog_1_method_5_code
def yX5_addCar : MethodName := ⟨RX5, "addCar", "(I)I"⟩
abbrev cX5_swap : ByteArray := prog_1_method_6_code
def yX5_swap : MethodName := ⟨RX5, "swap", "(II)I"⟩
abbrev cX5_fault : ByteArray := prog_1_method_7_code
def yX5_fault : MethodName := ⟨RX5, "fault", "(II)I"⟩
abbrev cX5_tick : ByteArray := prog_1_method_8_code
def yX5_tick : MethodName := ⟨RX5, "tick", "(I)I"⟩
abbrev cX5_now : ByteArray := prog_1_method_9_code
def yX5_now : MethodName := ⟨RX5, "now", "()I"⟩
abbrev cX5_stations : ByteArray := prog_1_method_10_code
def yX5_stations : MethodName := ⟨RX5, "stations", "()I"⟩
abbrev cX5_cars : ByteArray := prog_1_method_11_code
def yX5_cars : MethodName := ⟨RX5, "cars", "()I"⟩
abbrev cX5_stateOf : ByteArray := prog_1_method_12_code
def yX5_stateOf : MethodName := ⟨RX5, "stateOf", "(I)C"⟩
abbrev cX5_stationOf : ByteArray := prog_1_method_13_code
def yX5_stationOf : MethodName := ⟨RX5, "stationOf", "(I)I"⟩
abbrev cX5_toGo : ByteArray := prog_1_method_14_code
def yX5_toGo : MethodName := ⟨RX5, "toGo", "(I)I"⟩
abbrev cX5_carAt : ByteArray := prog_1_method_15_code
def yX5_carAt : MethodName := ⟨RX5, "carAt", "(I)I"⟩
abbrev cX5_isBack : ByteArray := prog_1_method_16_code
def yX5_isBack : MethodName := ⟨RX5, "isBack", "(I)Z"⟩
abbrev cX5_waiting : ByteArray := prog_1_method_17_code
def yX5_waiting : MethodName := ⟨RX5, "waiting", "()I"⟩
abbrev cX5_waitingAt : ByteArray := prog_1_method_18_code
def yX5_waitingAt : MethodName := ⟨RX5, "waitingAt", "(I)I"⟩
abbrev cX5_looped : ByteArray := prog_1_method_19_code
def yX5_looped : MethodName := ⟨RX5, "looped", "()I"⟩
abbrev cX5_loopedAt : ByteArray := prog_1_method_20_code
def yX5_loopedAt : MethodName := ⟨RX5, "loopedAt", "(I)I"⟩
abbrev cX5_left : ByteArray := prog_1_method_21_code
def yX5_left : MethodName := ⟨RX5, "left", "()I"⟩
abbrev cX5_leftAt : ByteArray := prog_1_method_22_code
def yX5_leftAt : MethodName := ⟨RX5, "leftAt", "(I)I"⟩
abbrev cX5_leftIn : ByteArray := prog_1_method_23_code
def yX5_leftIn : MethodName := ⟨RX5, "leftIn", "(I)I"⟩
abbrev cX5_faults : ByteArray := prog_1_method_24_code
def yX5_faults : MethodName := ⟨RX5, "faults", "(I)I"⟩
abbrev cX5_hasFault : ByteArray := prog_1_method_25_code
def yX5_hasFault : MethodName := ⟨RX5, "hasFault", "(II)Z"⟩
abbrev cX5_lacks : ByteArray := prog_1_method_26_code
def yX5_lacks : MethodName := ⟨RX5, "lacks", "(I)I"⟩
abbrev cX5_lacksOf : ByteArray := prog_1_method_27_code
def yX5_lacksOf : MethodName := ⟨RX5, "lacksOf", "(I)I"⟩
abbrev cX5_onShelf : ByteArray := prog_1_method_28_code
def yX5_onShelf : MethodName := ⟨RX5, "onShelf", "(I)I"⟩
abbrev cX5_inStore : ByteArray := prog_1_method_29_code
def yX5_inStore : MethodName := ⟨RX5, "inStore", "(I)I"⟩
abbrev cX5_nextRound : ByteArray := prog_1_method_30_code
def yX5_nextRound : MethodName := ⟨RX5, "nextRound", "()I"⟩
abbrev cX5_leavesIn : ByteArray := prog_1_method_31_code
def yX5_leavesIn : MethodName := ⟨RX5, "leavesIn", "(I)I"⟩
abbrev cX5_leavesByTicks : ByteArray := prog_1_method_32_code
def yX5_leavesByTicks : MethodName := ⟨RX5, "leavesByTicks", "(I)I"⟩
abbrev cX5_nextToLeave : ByteArray := prog_1_method_33_code
def yX5_nextToLeave : MethodName := ⟨RX5, "nextToLeave", "()I"⟩
abbrev cX5_traceLength : ByteArray := prog_1_method_34_code
def yX5_traceLength : MethodName := ⟨RX5, "traceLength", "(I)I"⟩
abbrev cX5_traceAt : ByteArray := prog_1_method_35_code
def yX5_traceAt : MethodName := ⟨RX5, "traceAt", "(II)C"⟩
abbrev cX5_countOf : ByteArray := prog_1_method_36_code
def yX5_countOf : MethodName := ⟨RX5, "countOf", "(C)I"⟩
abbrev cX5_fitted : ByteArray := prog_1_method_37_code
def yX5_fitted : MethodName := ⟨RX5, "fitted", "()J"⟩
abbrev cX5_lackShare : ByteArray := prog_1_method_38_code
def yX5_lackShare : MethodName := ⟨RX5, "lackShare", "()F"⟩
abbrev cX5_meanTime : ByteArray := prog_1_method_39_code
def yX5_meanTime : MethodName := ⟨RX5, "meanTime", "()D"⟩
abbrev cX5_isWithin : ByteArray := prog_1_method_40_code
def yX5_isWithin : MethodName := ⟨RX5, "isWithin", "(III)Z"⟩
abbrev cX5_requirePart : ByteArray := prog_1_method_41_code
def yX5_requirePart : MethodName := ⟨RX5, "requirePart", "(I)V"⟩
abbrev cX5_requireStation : ByteArray := prog_1_method_42_code
def yX5_requireStation : MethodName := ⟨RX5, "requireStation", "(I)LLineclock$Station;"⟩
abbrev cX5_requireCar : ByteArray := prog_1_method_43_code
def yX5_requireCar : MethodName := ⟨RX5, "requireCar", "(I)LLineclock$Car;"⟩
abbrev cX5_requireStanding : ByteArray := prog_1_method_44_code
def yX5_requireStanding : MethodName := ⟨RX5, "requireStanding", "(I)LLineclock$Car;"⟩
abbrev cX5_requireNotGone : ByteArray := prog_1_method_45_code
def yX5_requireNotGone : MethodName := ⟨RX5, "requireNotGone", "(I)V"⟩
abbrev cX5_requireTrace : ByteArray := prog_1_method_46_code
def yX5_requireTrace : MethodName := ⟨RX5, "requireTrace", "(I)LLineclock$Trace;"⟩
abbrev cX5_requirePlace : ByteArray := prog_1_method_47_code
def yX5_requirePlace : MethodName := ⟨RX5, "requirePlace", "(LLineclock$Row;I)I"⟩
def RX6 : String := "LineclockModel"
def TX6 : u_T := fun k => match k with
  | 0 => ("LineclockModel", "takts", "[I", true)
  | 1 => ("LineclockModel", "parts", "[I", true)
  | 2 => ("LineclockModel", "amounts", "[I", true)
  | 3 => ("LineclockModel", "rooms", "[I", true)
  | 4 => ("LineclockModel", "lacks", "[I", true)
  | 5 => ("LineclockModel", "stations", "I", false)
  | 6 => ("LineclockModel", "period", "I", false)
  | 7 => ("LineclockModel", "wants", "[I", true)
  | 8 => ("LineclockModel", "enteredIn", "[I", true)
  | 9 => ("LineclockModel", "leftIn", "[I", true)
  | 10 => ("LineclockModel", "entered", "[I", true)
  | 11 => ("LineclockModel", "cars", "I", false)
  | 12 => ("LineclockModel", "now", "[I", true)
  | 13 => ("LineclockModel", "kept", "[I", true)
  | 14 => ("LineclockModel", "isTrial", "Z", false)
  | 15 => ("LineclockModel", "traceSign", "[C", false)
  | 16 => ("LineclockModel", "traceCar", "[I", false)
  | 17 => ("LineclockModel", "traced", "I", false)
  | 18 => ("LineclockModel", "fitted", "J", false)
  | _ => ("LineclockModel", "thrown", "I", false)
def tyX6 : Nat → FieldType := fun k => match k with
  | 0 => .array .int
  | 1 => .array .int
  | 2 => .array .int
  | 3 => .array .int
  | 4 => .array .int
  | 5 => .int
  | 6 => .int
  | 7 => .array .int
  | 8 => .array .int
  | 9 => .array .int
  | 10 => .array .int
  | 11 => .int
  | 12 => .array .int
  | 13 => .array .int
  | 14 => .boolean
  | 15 => .array .char
  | 16 => .array .int
  | 17 => .int
  | 18 => .long
  | _ => .int
abbrev wsX60 : List Cond := u_ws RX6 TX6 20
theorem nmX6 : ∀ a, a < 20 → ∀ b, b < 20 → a ≠ b → (TX6 a).2.1 ≠ (TX6 b).2.1 := by decide +kernel
theorem tyX6_ok : ∀ k, k < 20 → parseFieldDescriptor (TX6 k).2.2.1 = some (tyX6 k) := by decide +kernel
abbrev cX6_init : ByteArray := prog_8_method_1_code
def yX6_init : MethodName := ⟨RX6, "<init>", "()V"⟩
abbrev cX6_thrown : ByteArray := prog_8_method_2_code
def yX6_thrown : MethodName := ⟨RX6, "thrown", "()I"⟩
abbrev cX6_in : ByteArray := prog_8_method_3_code
def yX6_in : MethodName := ⟨RX6, "in", "(JJJ)Z"⟩
abbrev cX6_addStation : ByteArray := prog_8_method_4_code
def yX6_addStation : MethodName := ⟨RX6, "addStation", "(IIII)I"⟩
abbrev cX6_isPart : ByteArray := prog_8_method_5_code
def yX6_isPart : MethodName := ⟨RX6, "isPart", "(I)Z"⟩
abbrev cX6_supply : ByteArray := prog_8_method_6_code
def yX6_supply : MethodName := ⟨RX6, "supply", "(II)I"⟩
abbrev cX6_setPeriod : ByteArray := prog_8_method_7_code
def yX6_setPeriod : MethodName := ⟨RX6, "setPeriod", "(I)I"⟩
abbrev cX6_addCar : ByteArray := prog_8_method_8_code
def yX6_addCar : MethodName := ⟨RX6, "addCar", "(I)I"⟩
abbrev cX6_isCar : ByteArray := prog_8_method_9_code
def yX6_isCar : MethodName := ⟨RX6, "isCar", "(I)Z"⟩
abbrev cX6_waitsAt : ByteArray := prog_8_method_10_code
def yX6_waitsAt : MethodName := ⟨RX6, "waitsAt", "(I)I"⟩
abbrev cX6_swap : ByteArray := prog_8_method_11_code
def yX6_swap : MethodName := ⟨RX6, "swap", "(II)I"⟩
abbrev cX6_isStation : ByteArray := prog_8_method_12_code
def yX6_isStation : MethodName := ⟨RX6, "isStation", "(I)Z"⟩
abbrev cX6_many : ByteArray := prog_8_method_13_code
def yX6_many : MethodName := ⟨RX6, "many", "(I)I"⟩
abbrev cX6_fault : ByteArray := prog_8_method_14_code
def yX6_fault : MethodName := ⟨RX6, "fault", "(II)I"⟩
abbrev cX6_writes : ByteArray := prog_8_method_15_code
def yX6_writes : MethodName := ⟨RX6, "writes", "(IC)V"⟩
abbrev cX6_enters : ByteArray := prog_8_method_16_code
def yX6_enters : MethodName := ⟨RX6, "enters", "(IIZ)V"⟩
abbrev cX6_fillsUp : ByteArray := prog_8_method_17_code
def yX6_fillsUp : MethodName := ⟨RX6, "fillsUp", "()V"⟩
abbrev cX6_leavesLine : ByteArray := prog_8_method_18_code
def yX6_leavesLine : MethodName := ⟨RX6, "leavesLine", "(I)V"⟩
abbrev cX6_goesOn : ByteArray := prog_8_method_19_code
def yX6_goesOn : MethodName := ⟨RX6, "goesOn", "(I)V"⟩
abbrev cX6_lowest : ByteArray := prog_8_method_20_code
def yX6_lowest : MethodName := ⟨RX6, "lowest", "(I)I"⟩
abbrev cX6_comesBack : ByteArray := prog_8_method_21_code
def yX6_comesBack : MethodName := ⟨RX6, "comesBack", "()V"⟩
abbrev cX6_ticks : ByteArray := prog_8_method_22_code
def yX6_ticks : MethodName := ⟨RX6, "ticks", "()V"⟩
abbrev cX6_tick : ByteArray := prog_8_method_23_code
def yX6_tick : MethodName := ⟨RX6, "tick", "(I)I"⟩
abbrev cX6_now : ByteArray := prog_8_method_24_code
def yX6_now : MethodName := ⟨RX6, "now", "()I"⟩
abbrev cX6_stations : ByteArray := prog_8_method_25_code
def yX6_stations : MethodName := ⟨RX6, "stations", "()I"⟩
abbrev cX6_cars : ByteArray := prog_8_method_26_code
def yX6_cars : MethodName := ⟨RX6, "cars", "()I"⟩
abbrev cX6_isAsked : ByteArray := prog_8_method_27_code
def yX6_isAsked : MethodName := ⟨RX6, "isAsked", "(I)Z"⟩
abbrev cX6_stateOf : ByteArray := prog_8_method_28_code
def yX6_stateOf : MethodName := ⟨RX6, "stateOf", "(I)C"⟩
abbrev cX6_standsAt : ByteArray := prog_8_method_29_code
def yX6_standsAt : MethodName := ⟨RX6, "standsAt", "(I)I"⟩
abbrev cX6_stationOf : ByteArray := prog_8_method_30_code
def yX6_stationOf : MethodName := ⟨RX6, "stationOf", "(I)I"⟩
abbrev cX6_toGo : ByteArray := prog_8_method_31_code
def yX6_toGo : MethodName := ⟨RX6, "toGo", "(I)I"⟩
abbrev cX6_carAt : ByteArray := prog_8_method_32_code
def yX6_carAt : MethodName := ⟨RX6, "carAt", "(I)I"⟩
abbrev cX6_isBack : ByteArray := prog_8_method_33_code
def yX6_isBack : MethodName := ⟨RX6, "isBack", "(I)Z"⟩
abbrev cX6_listed : ByteArray := prog_8_method_34_code
def yX6_listed : MethodName := ⟨RX6, "listed", "(III)I"⟩
abbrev cX6_waiting : ByteArray := prog_8_method_35_code
def yX6_waiting : MethodName := ⟨RX6, "waiting", "()I"⟩
abbrev cX6_waitingAt : ByteArray := prog_8_method_36_code
def yX6_waitingAt : MethodName := ⟨RX6, "waitingAt", "(I)I"⟩
abbrev cX6_looped : ByteArray := prog_8_method_37_code
def yX6_looped : MethodName := ⟨RX6, "looped", "()I"⟩
abbrev cX6_loopedAt : ByteArray := prog_8_method_38_code
def yX6_loopedAt : MethodName := ⟨RX6, "loopedAt", "(I)I"⟩
abbrev cX6_left : ByteArray := prog_8_method_39_code
def yX6_left : MethodName := ⟨RX6, "left", "()I"⟩
abbrev cX6_leftAt : ByteArray := prog_8_method_40_code
def yX6_leftAt : MethodName := ⟨RX6, "leftAt", "(I)I"⟩
abbrev cX6_leftIn : ByteArray := prog_8_method_41_code
def yX6_leftIn : MethodName := ⟨RX6, "leftIn", "(I)I"⟩
abbrev cX6_faults : ByteArray := prog_8_method_42_code
def yX6_faults : MethodName := ⟨RX6, "faults", "(I)I"⟩
abbrev cX6_hasFault : ByteArray := prog_8_method_43_code
def yX6_hasFault : MethodName := ⟨RX6, "hasFault", "(II)Z"⟩
abbrev cX6_lacks : ByteArray := prog_8_method_44_code
def yX6_lacks : MethodName := ⟨RX6, "lacks", "(I)I"⟩
abbrev cX6_lacksOf : ByteArray := prog_8_method_45_code
def yX6_lacksOf : MethodName := ⟨RX6, "lacksOf", "(I)I"⟩
abbrev cX6_onShelf : ByteArray := prog_8_method_46_code
def yX6_onShelf : MethodName := ⟨RX6, "onShelf", "(I)I"⟩
abbrev cX6_inStore : ByteArray := prog_8_method_47_code
def yX6_inStore : MethodName := ⟨RX6, "inStore", "(I)I"⟩
abbrev cX6_nextRound : ByteArray := prog_8_method_48_code
def yX6_nextRound : MethodName := ⟨RX6, "nextRound", "()I"⟩
abbrev cX6_keeps : ByteArray := prog_8_method_49_code
def yX6_keeps : MethodName := ⟨RX6, "keeps", "()V"⟩
abbrev cX6_putsBack : ByteArray := prog_8_method_50_code
def yX6_putsBack : MethodName := ⟨RX6, "putsBack", "()V"⟩
abbrev cX6_leavesIn : ByteArray := prog_8_method_51_code
def yX6_leavesIn : MethodName := ⟨RX6, "leavesIn", "(I)I"⟩
abbrev cX6_leavesByTicks : ByteArray := prog_8_method_52_code
def yX6_leavesByTicks : MethodName := ⟨RX6, "leavesByTicks", "(I)I"⟩
abbrev cX6_nextToLeave : ByteArray := prog_8_method_53_code
def yX6_nextToLeave : MethodName := ⟨RX6, "nextToLeave", "()I"⟩
abbrev cX6_traceLength : ByteArray := prog_8_method_54_code
def yX6_traceLength : MethodName := ⟨RX6, "traceLength", "(I)I"⟩
abbrev cX6_traceAt : ByteArray := prog_8_method_55_code
def yX6_traceAt : MethodName := ⟨RX6, "traceAt", "(II)C"⟩
abbrev cX6_count : ByteArray := prog_8_method_56_code
def yX6_count : MethodName := ⟨RX6, "count", "(C)I"⟩
abbrev cX6_countOf : ByteArray := prog_8_method_57_code
def yX6_countOf : MethodName := ⟨RX6, "countOf", "(C)I"⟩
abbrev cX6_fitted : ByteArray := prog_8_method_58_code
def yX6_fitted : MethodName := ⟨RX6, "fitted", "()J"⟩
abbrev cX6_lackShare : ByteArray := prog_8_method_59_code
def yX6_lackShare : MethodName := ⟨RX6, "lackShare", "()F"⟩
abbrev cX6_meanTime : ByteArray := prog_8_method_60_code
def yX6_meanTime : MethodName := ⟨RX6, "meanTime", "()D"⟩
def RJx145de : String := "java/io/Serializable"
def TJx145de : u_T := fun k => match k with
  | _ => ("", "", "", false)
def tyJx145de : Nat → FieldType := fun k => match k with
  | _ => .int
abbrev wsJx145de0 : List Cond := u_ws RJx145de TJx145de 0
theorem nmJx145de : ∀ a, a < 0 → ∀ b, b < 0 → a ≠ b → (TJx145de a).2.1 ≠ (TJx145de b).2.1 := by decide +kernel
theorem tyJx145de_ok : ∀ k, k < 0 → parseFieldDescriptor (TJx145de k).2.2.1 = some (tyJx145de k) := by decide +kernel
def RJx00060 : String := "java/lang/ArrayIndexOutOfBoundsException"
def TJx00060 : u_T := fun k => match k with
  | 0 => ("java/lang/Throwable", "backtrace", "Ljava/lang/Object;", false)
  | 1 => ("java/lang/Throwable", "detailMessage", "Ljava/lang/String;", false)
  | 2 => ("java/lang/Throwable", "cause", "Ljava/lang/Throwable;", false)
  | 3 => ("java/lang/Throwable", "stackTrace", "[Ljava/lang/StackTraceElement;", false)
  | 4 => ("java/lang/Throwable", "depth", "I", false)
  | _ => ("java/lang/Throwable", "suppressedExceptions", "Ljava/util/List;", false)
def tyJx00060 : Nat → FieldType := fun k => match k with
  | 0 => .object "java/lang/Object"
  | 1 => .object "java/lang/String"
  | 2 => .object "java/lang/Throwable"
  | 3 => .array (.object "java/lang/StackTraceElement")
  | 4 => .int
  | _ => .object "java/util/List"
abbrev wsJx000600 : List Cond := u_ws RJx00060 TJx00060 6
theorem nmJx00060 : ∀ a, a < 6 → ∀ b, b < 6 → a ≠ b → (TJx00060 a).2.1 ≠ (TJx00060 b).2.1 := by decide +kernel
theorem tyJx00060_ok : ∀ k, k < 6 → parseFieldDescriptor (TJx00060 k).2.2.1 = some (tyJx00060 k) := by decide +kernel
abbrev cJx00060_init_a7421 : ByteArray := prog_11_method_2_code
def yJx00060_init_a7421 : MethodName := ⟨RJx00060, "<init>", "(Ljava/lang/String;)V"⟩
def RJx9f9b0 : String := "java/lang/CharSequence"
def TJx9f9b0 : u_T := fun k => match k with
  | _ => ("", "", "", false)
def tyJx9f9b0 : Nat → FieldType := fun k => match k with
  | _ => .int
abbrev wsJx9f9b00 : List Cond := u_ws RJx9f9b0 TJx9f9b0 0
theorem nmJx9f9b0 : ∀ a, a < 0 → ∀ b, b < 0 → a ≠ b → (TJx9f9b0 a).2.1 ≠ (TJx9f9b0 b).2.1 := by decide +kernel
theorem tyJx9f9b0_ok : ∀ k, k < 0 → parseFieldDescriptor (TJx9f9b0 k).2.2.1 = some (tyJx9f9b0 k) := by decide +kernel
def RJ11 : String := "java/lang/Character"
def TJ11 : u_T := fun k => match k with
  | _ => ("", "", "", false)
def tyJ11 : Nat → FieldType := fun k => match k with
  | _ => .int
abbrev wsJ110 : List Cond := u_ws RJ11 TJ11 0
theorem nmJ11 : ∀ a, a < 0 → ∀ b, b < 0 → a ≠ b → (TJ11 a).2.1 ≠ (TJ11 b).2.1 := by decide +kernel
theorem tyJ11_ok : ∀ k, k < 0 → parseFieldDescriptor (TJ11 k).2.2.1 = some (tyJ11 k) := by decide +kernel
abbrev cJ11_isValidCodePoint_9a6ad : ByteArray := prog_13_method_11_code
def yJ11_isValidCodePoint_9a6ad : MethodName := ⟨RJ11, "isValidCodePoint", "(I)Z"⟩
abbrev cJ11_highSurrogate_5068e : ByteArray := prog_13_method_28_code
def yJ11_highSurrogate_5068e : MethodName := ⟨RJ11, "highSurrogate", "(I)C"⟩
abbrev cJ11_lowSurrogate_5068e : ByteArray := prog_13_method_29_code
def yJ11_lowSurrogate_5068e : MethodName := ⟨RJ11, "lowSurrogate", "(I)C"⟩
def RJxb160c : String := "java/lang/Comparable"
def TJxb160c : u_T := fun k => match k with
  | _ => ("", "", "", false)
def tyJxb160c : Nat → FieldType := fun k => match k with
  | _ => .int
abbrev wsJxb160c0 : List Cond := u_ws RJxb160c TJxb160c 0
theorem nmJxb160c : ∀ a, a < 0 → ∀ b, b < 0 → a ≠ b → (TJxb160c a).2.1 ≠ (TJxb160c b).2.1 := by decide +kernel
theorem tyJxb160c_ok : ∀ k, k < 0 → parseFieldDescriptor (TJxb160c k).2.2.1 = some (tyJxb160c k) := by decide +kernel
def RJ6 : String := "java/lang/Integer"
def TJ6 : u_T := fun k => match k with
  | _ => ("", "", "", false)
def tyJ6 : Nat → FieldType := fun k => match k with
  | _ => .int
abbrev wsJ60 : List Cond := u_ws RJ6 TJ6 0
theorem nmJ6 : ∀ a, a < 0 → ∀ b, b < 0 → a ≠ b → (TJ6 a).2.1 ≠ (TJ6 b).2.1 := by decide +kernel
theorem tyJ6_ok : ∀ k, k < 0 → parseFieldDescriptor (TJ6 k).2.2.1 = some (tyJ6 k) := by decide +kernel
abbrev cJ6_bitCount_0f7a4 : ByteArray := prog_19_method_49_code
def yJ6_bitCount_0f7a4 : MethodName := ⟨RJ6, "bitCount", "(I)I"⟩
def RJ9 : String := "java/lang/Math"
def TJ9 : u_T := fun k => match k with
  | _ => ("", "", "", false)
def tyJ9 : Nat → FieldType := fun k => match k with
  | _ => .int
abbrev wsJ90 : List Cond := u_ws RJ9 TJ9 0
theorem nmJ9 : ∀ a, a < 0 → ∀ b, b < 0 → a ≠ b → (TJ9 a).2.1 ≠ (TJ9 b).2.1 := by decide +kernel
theorem tyJ9_ok : ∀ k, k < 0 → parseFieldDescriptor (TJ9 k).2.2.1 = some (tyJ9 k) := by decide +kernel
abbrev cJ9_max_7cf53 : ByteArray := prog_20_method_65_code
def yJ9_max_7cf53 : MethodName := ⟨RJ9, "max", "(II)I"⟩
abbrev cJ9_min_7cf53 : ByteArray := prog_20_method_69_code
def yJ9_min_7cf53 : MethodName := ⟨RJ9, "min", "(II)I"⟩
def RJ0 : String := "java/lang/String"
def TJ0 : u_T := fun k => match k with
  | 0 => ("java/lang/String", "value", "[B", true)
  | _ => ("java/lang/String", "coder", "B", true)
def tyJ0 : Nat → FieldType := fun k => match k with
  | 0 => .array .byte
  | _ => .byte
abbrev wsJ00 : List Cond := u_ws RJ0 TJ0 2
theorem nmJ0 : ∀ a, a < 2 → ∀ b, b < 2 → a ≠ b → (TJ0 a).2.1 ≠ (TJ0 b).2.1 := by decide +kernel
theorem tyJ0_ok : ∀ k, k < 2 → parseFieldDescriptor (TJ0 k).2.2.1 = some (tyJ0 k) := by decide +kernel
abbrev cJ0_length_8abf5 : ByteArray := prog_22_method_54_code
def yJ0_length_8abf5 : MethodName := ⟨RJ0, "length", "()I"⟩
abbrev cJ0_indexOf_0f7a4 : ByteArray := prog_22_method_79_code
def yJ0_indexOf_0f7a4 : MethodName := ⟨RJ0, "indexOf", "(I)I"⟩
abbrev cJ0_indexOf_7cf53 : ByteArray := prog_22_method_80_code
def yJ0_indexOf_7cf53 : MethodName := ⟨RJ0, "indexOf", "(II)I"⟩
abbrev cJ0_coder_7d493 : ByteArray := prog_22_method_152_code
def yJ0_coder_7d493 : MethodName := ⟨RJ0, "coder", "()B"⟩
abbrev cJ0_isLatin1_aae02 : ByteArray := prog_22_method_154_code
def yJ0_isLatin1_aae02 : MethodName := ⟨RJ0, "isLatin1", "()Z"⟩
abbrev cJ0_checkBoundsBeginEnd_23922 : ByteArray := prog_22_method_158_code
def yJ0_checkBoundsBeginEnd_23922 : MethodName := ⟨RJ0, "checkBoundsBeginEnd", "(III)V"⟩
def RJ1 : String := "java/lang/StringLatin1"
def TJ1 : u_T := fun k => match k with
  | _ => ("", "", "", false)
def tyJ1 : Nat → FieldType := fun k => match k with
  | _ => .int
abbrev wsJ10 : List Cond := u_ws RJ1 TJ1 0
theorem nmJ1 : ∀ a, a < 0 → ∀ b, b < 0 → a ≠ b → (TJ1 a).2.1 ≠ (TJ1 b).2.1 := by decide +kernel
theorem tyJ1_ok : ∀ k, k < 0 → parseFieldDescriptor (TJ1 k).2.2.1 = some (tyJ1 k) := by decide +kernel
abbrev cJ1_canEncode_9a6ad : ByteArray := prog_23_method_4_code
def yJ1_canEncode_9a6ad : MethodName := ⟨RJ1, "canEncode", "(I)Z"⟩
abbrev cJ1_indexOf_4cfef : ByteArray := prog_23_method_22_code
def yJ1_indexOf_4cfef : MethodName := ⟨RJ1, "indexOf", "([BIII)I"⟩
abbrev cJ1_indexOfChar_4cfef : ByteArray := prog_23_method_23_code
def yJ1_indexOfChar_4cfef : MethodName := ⟨RJ1, "indexOfChar", "([BIII)I"⟩
def RJ2 : String := "java/lang/StringUTF16"
def TJ2 : u_T := fun k => match k with
  | _ => ("", "", "", false)
def tyJ2 : Nat → FieldType := fun k => match k with
  | _ => .int
abbrev wsJ20 : List Cond := u_ws RJ2 TJ2 0
theorem nmJ2 : ∀ a, a < 0 → ∀ b, b < 0 → a ≠ b → (TJ2 a).2.1 ≠ (TJ2 b).2.1 := by decide +kernel
theorem tyJ2_ok : ∀ k, k < 0 → parseFieldDescriptor (TJ2 k).2.2.1 = some (tyJ2 k) := by decide +kernel
abbrev cJ2_getChar_3b067 : ByteArray := prog_24_method_5_code
def yJ2_getChar_3b067 : MethodName := ⟨RJ2, "getChar", "([BI)C"⟩
abbrev cJ2_length_9d52b : ByteArray := prog_24_method_6_code
def yJ2_length_9d52b : MethodName := ⟨RJ2, "length", "([B)I"⟩
abbrev cJ2_indexOf_4cfef : ByteArray := prog_24_method_40_code
def yJ2_indexOf_4cfef : MethodName := ⟨RJ2, "indexOf", "([BIII)I"⟩
abbrev cJ2_indexOfChar_4cfef : ByteArray := prog_24_method_47_code
def yJ2_indexOfChar_4cfef : MethodName := ⟨RJ2, "indexOfChar", "([BIII)I"⟩
abbrev cJ2_indexOfCharUnsafe_4cfef : ByteArray := prog_24_method_48_code
def yJ2_indexOfCharUnsafe_4cfef : MethodName := ⟨RJ2, "indexOfCharUnsafe", "([BIII)I"⟩
abbrev cJ2_indexOfSupplementary_4cfef : ByteArray := prog_24_method_49_code
def yJ2_indexOfSupplementary_4cfef : MethodName := ⟨RJ2, "indexOfSupplementary", "([BIII)I"⟩
abbrev cJ2_checkBoundsBeginEnd_d044e : ByteArray := prog_24_method_93_code
def yJ2_checkBoundsBeginEnd_d044e : MethodName := ⟨RJ2, "checkBoundsBeginEnd", "(II[B)V"⟩
def RJxfd54e : String := "java/lang/constant/Constable"
def TJxfd54e : u_T := fun k => match k with
  | _ => ("", "", "", false)
def tyJxfd54e : Nat → FieldType := fun k => match k with
  | _ => .int
abbrev wsJxfd54e0 : List Cond := u_ws RJxfd54e TJxfd54e 0
theorem nmJxfd54e : ∀ a, a < 0 → ∀ b, b < 0 → a ≠ b → (TJxfd54e a).2.1 ≠ (TJxfd54e b).2.1 := by decide +kernel
theorem tyJxfd54e_ok : ∀ k, k < 0 → parseFieldDescriptor (TJxfd54e k).2.2.1 = some (tyJxfd54e k) := by decide +kernel
def RJx3cf43 : String := "java/lang/constant/ConstantDesc"
def TJx3cf43 : u_T := fun k => match k with
  | _ => ("", "", "", false)
def tyJx3cf43 : Nat → FieldType := fun k => match k with
  | _ => .int
abbrev wsJx3cf430 : List Cond := u_ws RJx3cf43 TJx3cf43 0
theorem nmJx3cf43 : ∀ a, a < 0 → ∀ b, b < 0 → a ≠ b → (TJx3cf43 a).2.1 ≠ (TJx3cf43 b).2.1 := by decide +kernel
theorem tyJx3cf43_ok : ∀ k, k < 0 → parseFieldDescriptor (TJx3cf43 k).2.2.1 = some (tyJx3cf43 k) := by decide +kernel
def RJ3 : String := "jdk/internal/util/Preconditions"
def TJ3 : u_T := fun k => match k with
  | _ => ("", "", "", false)
def tyJ3 : Nat → FieldType := fun k => match k with
  | _ => .int
abbrev wsJ30 : List Cond := u_ws RJ3 TJ3 0
theorem nmJ3 : ∀ a, a < 0 → ∀ b, b < 0 → a ≠ b → (TJ3 a).2.1 ≠ (TJ3 b).2.1 := by decide +kernel
theorem tyJ3_ok : ∀ k, k < 0 → parseFieldDescriptor (TJ3 k).2.2.1 = some (tyJ3 k) := by decide +kernel
abbrev cJ3_checkFromToIndex_8c36e : ByteArray := prog_30_method_12_code
def yJ3_checkFromToIndex_8c36e : MethodName := ⟨RJ3, "checkFromToIndex", "(IIILjava/util/function/BiFunction;)I"⟩
def RL : String := "LineclockLaw"
abbrev cL_addStation : ByteArray := method_3_code
def yL_addStation : MethodName := ⟨RL, "addStation", "(LLineclock;IIII[J)I"⟩
abbrev cL_supply : ByteArray := method_4_code
def yL_supply : MethodName := ⟨RL, "supply", "(LLineclock;II[J)I"⟩
abbrev cL_setPeriod : ByteArray := method_5_code
def yL_setPeriod : MethodName := ⟨RL, "setPeriod", "(LLineclock;I[J)I"⟩
abbrev cL_addCar : ByteArray := method_6_code
def yL_addCar : MethodName := ⟨RL, "addCar", "(LLineclock;I[J)I"⟩
abbrev cL_swap : ByteArray := method_7_code
def yL_swap : MethodName := ⟨RL, "swap", "(LLineclock;II[J)I"⟩
abbrev cL_fault : ByteArray := method_8_code
def yL_fault : MethodName := ⟨RL, "fault", "(LLineclock;II[J)I"⟩
abbrev cL_tick : ByteArray := method_9_code
def yL_tick : MethodName := ⟨RL, "tick", "(LLineclock;I[J)I"⟩
abbrev cL_stateOf : ByteArray := method_10_code
def yL_stateOf : MethodName := ⟨RL, "stateOf", "(LLineclock;I[J)I"⟩
abbrev cL_stationOf : ByteArray := method_11_code
def yL_stationOf : MethodName := ⟨RL, "stationOf", "(LLineclock;I[J)I"⟩
abbrev cL_toGo : ByteArray := method_12_code
def yL_toGo : MethodName := ⟨RL, "toGo", "(LLineclock;I[J)I"⟩
abbrev cL_carAt : ByteArray := method_13_code
def yL_carAt : MethodName := ⟨RL, "carAt", "(LLineclock;I[J)I"⟩
abbrev cL_isBack : ByteArray := method_14_code
def yL_isBack : MethodName := ⟨RL, "isBack", "(LLineclock;I[J)I"⟩
abbrev cL_waitingAt : ByteArray := method_15_code
def yL_waitingAt : MethodName := ⟨RL, "waitingAt", "(LLineclock;I[J)I"⟩
abbrev cL_loopedAt : ByteArray := method_16_code
def yL_loopedAt : MethodName := ⟨RL, "loopedAt", "(LLineclock;I[J)I"⟩
abbrev cL_leftAt : ByteArray := method_17_code
def yL_leftAt : MethodName := ⟨RL, "leftAt", "(LLineclock;I[J)I"⟩
abbrev cL_leftIn : ByteArray := method_18_code
def yL_leftIn : MethodName := ⟨RL, "leftIn", "(LLineclock;I[J)I"⟩
abbrev cL_faults : ByteArray := method_19_code
def yL_faults : MethodName := ⟨RL, "faults", "(LLineclock;I[J)I"⟩
abbrev cL_hasFault : ByteArray := method_20_code
def yL_hasFault : MethodName := ⟨RL, "hasFault", "(LLineclock;II[J)I"⟩
abbrev cL_lacks : ByteArray := method_21_code
def yL_lacks : MethodName := ⟨RL, "lacks", "(LLineclock;I[J)I"⟩
abbrev cL_lacksOf : ByteArray := method_22_code
def yL_lacksOf : MethodName := ⟨RL, "lacksOf", "(LLineclock;I[J)I"⟩
abbrev cL_onShelf : ByteArray := method_23_code
def yL_onShelf : MethodName := ⟨RL, "onShelf", "(LLineclock;I[J)I"⟩
abbrev cL_inStore : ByteArray := method_24_code
def yL_inStore : MethodName := ⟨RL, "inStore", "(LLineclock;I[J)I"⟩
abbrev cL_leavesIn : ByteArray := method_25_code
def yL_leavesIn : MethodName := ⟨RL, "leavesIn", "(LLineclock;I[J)I"⟩
abbrev cL_leavesByTicks : ByteArray := method_26_code
def yL_leavesByTicks : MethodName := ⟨RL, "leavesByTicks", "(LLineclock;I[J)I"⟩
abbrev cL_nextToLeave : ByteArray := method_27_code
def yL_nextToLeave : MethodName := ⟨RL, "nextToLeave", "(LLineclock;[J)I"⟩
abbrev cL_traceLength : ByteArray := method_28_code
def yL_traceLength : MethodName := ⟨RL, "traceLength", "(LLineclock;I[J)I"⟩
abbrev cL_traceAt : ByteArray := method_29_code
def yL_traceAt : MethodName := ⟨RL, "traceAt", "(LLineclock;II[J)I"⟩
abbrev cL_countOf : ByteArray := method_30_code
def yL_countOf : MethodName := ⟨RL, "countOf", "(LLineclock;C[J)I"⟩
abbrev cL_lackShare : ByteArray := method_31_code
def yL_lackShare : MethodName := ⟨RL, "lackShare", "(LLineclock;[D)I"⟩
abbrev cL_meanTime : ByteArray := method_32_code
def yL_meanTime : MethodName := ⟨RL, "meanTime", "(LLineclock;[D)I"⟩
abbrev cL_law : ByteArray := code
def yL_law : MethodName := ⟨RL, "law", "([I)Z"⟩
abbrev vwCl : List vw_C := [(RJ0, TJ0, 2), (RJx00060, TJx00060, 6), (RX0, TX0, 11), (RX1, TX1, 10), (RX2, TX2, 2), (RX3, TX3, 8), (RX4, TX4, 3), (RX5, TX5, 2), (RX6, TX6, 20)]
end
section
theorem dX0_init_0 : decode cX0_init 0 = .ok (.aload_n 0, 1) := by decide +kernel
theorem dX0_init_1 : decode cX0_init 1 = .ok (.invokespecial 3, 3) := by decide +kernel
theorem dX0_init_4 : decode cX0_init 4 = .ok (.aload_n 0, 1) := by decide +kernel
theorem dX0_init_5 : decode cX0_init 5 = .ok (.bipush 119, 2) := by decide +kernel
theorem dX0_init_7 : decode cX0_init 7 = .ok (.putfield 9, 3) := by decide +kernel
theorem dX0_init_10 : decode cX0_init 10 = .ok (.aload_n 0, 1) := by decide +kernel
theorem dX0_init_11 : decode cX0_init 11 = .ok (.iconst (-1), 1) := by decide +kernel
theorem dX0_init_12 : decode cX0_init 12 = .ok (.putfield 15, 3) := by decide +kernel
theorem dX0_init_15 : decode cX0_init 15 = .ok (.aload_n 0, 1) := by decide +kernel
theorem dX0_init_16 : decode cX0_init 16 = .ok (.iload_n 1, 1) := by decide +kernel
theorem dX0_init_17 : decode cX0_init 17 = .ok (.putfield 19, 3) := by decide +kernel
theorem dX0_init_20 : decode cX0_init 20 = .ok (.aload_n 0, 1) := by decide +kernel
theorem dX0_init_21 : decode cX0_init 21 = .ok (.aload_n 2, 1) := by decide +kernel
theorem dX0_init_22 : decode cX0_init 22 = .ok (.putfield 22, 3) := by decide +kernel
theorem dX0_init_25 : decode cX0_init 25 = .ok (.return_, 1) := by decide +kernel
theorem dX0_copyFrom_0 : decode cX0_copyFrom 0 = .ok (.aload_n 0, 1) := by decide +kernel
theorem dX0_copyFrom_1 : decode cX0_copyFrom 1 = .ok (.aload_n 1, 1) := by decide +kernel
theorem dX0_copyFrom_2 : decode cX0_copyFrom 2 = .ok (.getfield 26, 3) := by decide +kernel
theorem dX0_copyFrom_5 : decode cX0_copyFrom 5 = .ok (.putfield 26, 3) := by decide +kernel
theorem dX0_copyFrom_8 : decode cX0_copyFrom 8 = .ok (.aload_n 0, 1) := by decide +kernel
theorem dX0_copyFrom_9 : decode cX0_copyFrom 9 = .ok (.aload_n 1, 1) := by decide +kernel
theorem dX0_copyFrom_10 : decode cX0_copyFrom 10 = .ok (.getfield 9, 3) := by decide +kernel
theorem dX0_copyFrom_13 : decode cX0_copyFrom 13 = .ok (.putfield 9, 3) := by decide +kernel
theorem dX0_copyFrom_16 : decode cX0_copyFrom 16 = .ok (.aload_n 0, 1) := by decide +kernel
theorem dX0_copyFrom_17 : decode cX0_copyFrom 17 = .ok (.aload_n 1, 1) := by decide +kernel
theorem dX0_copyFrom_18 : decode cX0_copyFrom 18 = .ok (.getfield 15, 3) := by decide +kernel
theorem dX0_copyFrom_21 : decode cX0_copyFrom 21 = .ok (.putfield 15, 3) := by decide +kernel
theorem dX0_copyFrom_24 : decode cX0_copyFrom 24 = .ok (.aload_n 0, 1) := by decide +kernel
theorem dX0_copyFrom_25 : decode cX0_copyFrom 25 = .ok (.aload_n 1, 1) := by decide +kernel
theorem dX0_copyFrom_26 : decode cX0_copyFrom 26 = .ok (.getfield 29, 3) := by decide +kernel
theorem dX0_copyFrom_29 : decode cX0_copyFrom 29 = .ok (.putfield 29, 3) := by decide +kernel
theorem dX0_copyFrom_32 : decode cX0_copyFrom 32 = .ok (.aload_n 0, 1) := by decide +kernel
theorem dX0_copyFrom_33 : decode cX0_copyFrom 33 = .ok (.aload_n 1, 1) := by decide +kernel
theorem dX0_copyFrom_34 : decode cX0_copyFrom 34 = .ok (.getfield 32, 3) := by decide +kernel
theorem dX0_copyFrom_37 : decode cX0_copyFrom 37 = .ok (.putfield 32, 3) := by decide +kernel
theorem dX0_copyFrom_40 : decode cX0_copyFrom 40 = .ok (.aload_n 0, 1) := by decide +kernel
theorem dX0_copyFrom_41 : decode cX0_copyFrom 41 = .ok (.aload_n 1, 1) := by decide +kernel
theorem dX0_copyFrom_42 : decode cX0_copyFrom 42 = .ok (.getfield 36, 3) := by decide +kernel
theorem dX0_copyFrom_45 : decode cX0_copyFrom 45 = .ok (.putfield 36, 3) := by decide +kernel
theorem dX0_copyFrom_48 : decode cX0_copyFrom 48 = .ok (.aload_n 0, 1) := by decide +kernel
theorem dX0_copyFrom_49 : decode cX0_copyFrom 49 = .ok (.aload_n 1, 1) := by decide +kernel
theorem dX0_copyFrom_50 : decode cX0_copyFrom 50 = .ok (.getfield 39, 3) := by decide +kernel
theorem dX0_copyFrom_53 : decode cX0_copyFrom 53 = .ok (.putfield 39, 3) := by decide +kernel
theorem dX0_copyFrom_56 : decode cX0_copyFrom 56 = .ok (.aload_n 0, 1) := by decide +kernel
theorem dX0_copyFrom_57 : decode cX0_copyFrom 57 = .ok (.aload_n 1, 1) := by decide +kernel
theorem dX0_copyFrom_58 : decode cX0_copyFrom 58 = .ok (.getfield 42, 3) := by decide +kernel
theorem dX0_copyFrom_61 : decode cX0_copyFrom 61 = .ok (.putfield 42, 3) := by decide +kernel
theorem dX0_copyFrom_64 : decode cX0_copyFrom 64 = .ok (.aload_n 0, 1) := by decide +kernel
theorem dX0_copyFrom_65 : decode cX0_copyFrom 65 = .ok (.aload_n 1, 1) := by decide +kernel
theorem dX0_copyFrom_66 : decode cX0_copyFrom 66 = .ok (.getfield 45, 3) := by decide +kernel
theorem dX0_copyFrom_69 : decode cX0_copyFrom 69 = .ok (.putfield 45, 3) := by decide +kernel
theorem dX0_copyFrom_72 : decode cX0_copyFrom 72 = .ok (.return_, 1) := by decide +kernel
theorem dX0_isWanting_0 : decode cX0_isWanting 0 = .ok (.aload_n 0, 1) := by decide +kernel
theorem dX0_isWanting_1 : decode cX0_isWanting 1 = .ok (.getfield 26, 3) := by decide +kernel
theorem dX0_isWanting_4 : decode cX0_isWanting 4 = .ok (.iload_n 1, 1) := by decide +kernel
theorem dX0_isWanting_5 : decode cX0_isWanting 5 = .ok (.ishr, 1) := by decide +kernel
theorem dX0_isWanting_6 : decode cX0_isWanting 6 = .ok (.iconst 1, 1) := by decide +kernel
theorem dX0_isWanting_7 : decode cX0_isWanting 7 = .ok (.iand, 1) := by decide +kernel
theorem dX0_isWanting_8 : decode cX0_isWanting 8 = .ok (.ifCond .eq 7, 3) := by decide +kernel
theorem dX0_isWanting_11 : decode cX0_isWanting 11 = .ok (.iconst 1, 1) := by decide +kernel
theorem dX0_isWanting_12 : decode cX0_isWanting 12 = .ok (.goto 4, 3) := by decide +kernel
theorem dX0_isWanting_15 : decode cX0_isWanting 15 = .ok (.iconst 0, 1) := by decide +kernel
theorem dX0_isWanting_16 : decode cX0_isWanting 16 = .ok (.ireturn, 1) := by decide +kernel
theorem dX0_hasEntered_0 : decode cX0_hasEntered 0 = .ok (.aload_n 0, 1) := by decide +kernel
theorem dX0_hasEntered_1 : decode cX0_hasEntered 1 = .ok (.getfield 39, 3) := by decide +kernel
theorem dX0_hasEntered_4 : decode cX0_hasEntered 4 = .ok (.iload_n 1, 1) := by decide +kernel
theorem dX0_hasEntered_5 : decode cX0_hasEntered 5 = .ok (.ishr, 1) := by decide +kernel
theorem dX0_hasEntered_6 : decode cX0_hasEntered 6 = .ok (.iconst 1, 1) := by decide +kernel
theorem dX0_hasEntered_7 : decode cX0_hasEntered 7 = .ok (.iand, 1) := by decide +kernel
theorem dX0_hasEntered_8 : decode cX0_hasEntered 8 = .ok (.ifCond .eq 7, 3) := by decide +kernel
theorem dX0_hasEntered_11 : decode cX0_hasEntered 11 = .ok (.iconst 1, 1) := by decide +kernel
theorem dX0_hasEntered_12 : decode cX0_hasEntered 12 = .ok (.goto 4, 3) := by decide +kernel
theorem dX0_hasEntered_15 : decode cX0_hasEntered 15 = .ok (.iconst 0, 1) := by decide +kernel
theorem dX0_hasEntered_16 : decode cX0_hasEntered 16 = .ok (.ireturn, 1) := by decide +kernel
theorem dX0_isFaulty_0 : decode cX0_isFaulty 0 = .ok (.aload_n 0, 1) := by decide +kernel
theorem dX0_isFaulty_1 : decode cX0_isFaulty 1 = .ok (.getfield 36, 3) := by decide +kernel
theorem dX0_isFaulty_4 : decode cX0_isFaulty 4 = .ok (.iload_n 1, 1) := by decide +kernel
theorem dX0_isFaulty_5 : decode cX0_isFaulty 5 = .ok (.ishr, 1) := by decide +kernel
theorem dX0_isFaulty_6 : decode cX0_isFaulty 6 = .ok (.iconst 1, 1) := by decide +kernel
theorem dX0_isFaulty_7 : decode cX0_isFaulty 7 = .ok (.iand, 1) := by decide +kernel
theorem dX0_isFaulty_8 : decode cX0_isFaulty 8 = .ok (.ifCond .eq 7, 3) := by decide +kernel
theorem dX0_isFaulty_11 : decode cX0_isFaulty 11 = .ok (.iconst 1, 1) := by decide +kernel
theorem dX0_isFaulty_12 : decode cX0_isFaulty 12 = .ok (.goto 4, 3) := by decide +kernel
theorem dX0_isFaulty_15 : decode cX0_isFaulty 15 = .ok (.iconst 0, 1) := by decide +kernel
theorem dX0_isFaulty_16 : decode cX0_isFaulty 16 = .ok (.ireturn, 1) := by decide +kernel
theorem dX0_openFault_0 : decode cX0_openFault 0 = .ok (.aload_n 0, 1) := by decide +kernel
theorem dX0_openFault_1 : decode cX0_openFault 1 = .ok (.dup, 1) := by decide +kernel
theorem dX0_openFault_2 : decode cX0_openFault 2 = .ok (.getfield 36, 3) := by decide +kernel
theorem dX0_openFault_5 : decode cX0_openFault 5 = .ok (.iconst 1, 1) := by decide +kernel
theorem dX0_openFault_6 : decode cX0_openFault 6 = .ok (.iload_n 1, 1) := by decide +kernel
theorem dX0_openFault_7 : decode cX0_openFault 7 = .ok (.ishl, 1) := by decide +kernel
theorem dX0_openFault_8 : decode cX0_openFault 8 = .ok (.ior, 1) := by decide +kernel
theorem dX0_openFault_9 : decode cX0_openFault 9 = .ok (.putfield 36, 3) := by decide +kernel
theorem dX0_openFault_12 : decode cX0_openFault 12 = .ok (.return_, 1) := by decide +kernel
theorem dX0_closeFault_0 : decode cX0_closeFault 0 = .ok (.aload_n 0, 1) := by decide +kernel
theorem dX0_closeFault_1 : decode cX0_closeFault 1 = .ok (.dup, 1) := by decide +kernel
theorem dX0_closeFault_2 : decode cX0_closeFault 2 = .ok (.getfield 36, 3) := by decide +kernel
theorem dX0_closeFault_5 : decode cX0_closeFault 5 = .ok (.iconst 1, 1) := by decide +kernel
theorem dX0_closeFault_6 : decode cX0_closeFault 6 = .ok (.iload_n 1, 1) := by decide +kernel
theorem dX0_closeFault_7 : decode cX0_closeFault 7 = .ok (.ishl, 1) := by decide +kernel
theorem dX0_closeFault_8 : decode cX0_closeFault 8 = .ok (.iconst (-1), 1) := by decide +kernel
theorem dX0_closeFault_9 : decode cX0_closeFault 9 = .ok (.ixor, 1) := by decide +kernel
theorem dX0_closeFault_10 : decode cX0_closeFault 10 = .ok (.iand, 1) := by decide +kernel
theorem dX0_closeFault_11 : decode cX0_closeFault 11 = .ok (.putfield 36, 3) := by decide +kernel
theorem dX0_closeFault_14 : decode cX0_closeFault 14 = .ok (.return_, 1) := by decide +kernel
theorem dX0_faultCount_0 : decode cX0_faultCount 0 = .ok (.aload_n 0, 1) := by decide +kernel
theorem dX0_faultCount_1 : decode cX0_faultCount 1 = .ok (.getfield 36, 3) := by decide +kernel
theorem dX0_faultCount_4 : decode cX0_faultCount 4 = .ok (.invokestatic 48, 3) := by decide +kernel
theorem dX0_faultCount_7 : decode cX0_faultCount 7 = .ok (.ireturn, 1) := by decide +kernel
theorem dX0_lowestFault_0 : decode cX0_lowestFault 0 = .ok (.iconst 0, 1) := by decide +kernel
theorem dX0_lowestFault_1 : decode cX0_lowestFault 1 = .ok (.istore_n 1, 1) := by decide +kernel
theorem dX0_lowestFault_2 : decode cX0_lowestFault 2 = .ok (.iload_n 1, 1) := by decide +kernel
theorem dX0_lowestFault_3 : decode cX0_lowestFault 3 = .ok (.bipush 8, 2) := by decide +kernel
theorem dX0_lowestFault_5 : decode cX0_lowestFault 5 = .ok (.if_icmp .ge 19, 3) := by decide +kernel
theorem dX0_lowestFault_8 : decode cX0_lowestFault 8 = .ok (.aload_n 0, 1) := by decide +kernel
theorem dX0_lowestFault_9 : decode cX0_lowestFault 9 = .ok (.iload_n 1, 1) := by decide +kernel
theorem dX0_lowestFault_10 : decode cX0_lowestFault 10 = .ok (.invokevirtual 54, 3) := by decide +kernel
theorem dX0_lowestFault_13 : decode cX0_lowestFault 13 = .ok (.ifCond .eq 5, 3) := by decide +kernel
theorem dX0_lowestFault_16 : decode cX0_lowestFault 16 = .ok (.iload_n 1, 1) := by decide +kernel
theorem dX0_lowestFault_17 : decode cX0_lowestFault 17 = .ok (.ireturn, 1) := by decide +kernel
theorem dX0_lowestFault_18 : decode cX0_lowestFault 18 = .ok (.iinc 1 1, 3) := by decide +kernel
theorem dX0_lowestFault_21 : decode cX0_lowestFault 21 = .ok (.goto (-19), 3) := by decide +kernel
theorem dX0_lowestFault_24 : decode cX0_lowestFault 24 = .ok (.iconst (-1), 1) := by decide +kernel
theorem dX0_lowestFault_25 : decode cX0_lowestFault 25 = .ok (.ireturn, 1) := by decide +kernel
theorem dX0_stand_0 : decode cX0_stand 0 = .ok (.aload_n 0, 1) := by decide +kernel
theorem dX0_stand_1 : decode cX0_stand 1 = .ok (.bipush 115, 2) := by decide +kernel
theorem dX0_stand_3 : decode cX0_stand 3 = .ok (.putfield 9, 3) := by decide +kernel
theorem dX0_stand_6 : decode cX0_stand 6 = .ok (.aload_n 0, 1) := by decide +kernel
theorem dX0_stand_7 : decode cX0_stand 7 = .ok (.iload_n 1, 1) := by decide +kernel
theorem dX0_stand_8 : decode cX0_stand 8 = .ok (.putfield 15, 3) := by decide +kernel
theorem dX0_stand_11 : decode cX0_stand 11 = .ok (.aload_n 0, 1) := by decide +kernel
theorem dX0_stand_12 : decode cX0_stand 12 = .ok (.iload_n 2, 1) := by decide +kernel
theorem dX0_stand_13 : decode cX0_stand 13 = .ok (.putfield 29, 3) := by decide +kernel
theorem dX0_stand_16 : decode cX0_stand 16 = .ok (.aload_n 0, 1) := by decide +kernel
theorem dX0_stand_17 : decode cX0_stand 17 = .ok (.iload_n 3, 1) := by decide +kernel
theorem dX0_stand_18 : decode cX0_stand 18 = .ok (.putfield 32, 3) := by decide +kernel
theorem dX0_stand_21 : decode cX0_stand 21 = .ok (.aload_n 0, 1) := by decide +kernel
theorem dX0_stand_22 : decode cX0_stand 22 = .ok (.dup, 1) := by decide +kernel
theorem dX0_stand_23 : decode cX0_stand 23 = .ok (.getfield 39, 3) := by decide +kernel
theorem dX0_stand_26 : decode cX0_stand 26 = .ok (.iconst 1, 1) := by decide +kernel
theorem dX0_stand_27 : decode cX0_stand 27 = .ok (.iload_n 1, 1) := by decide +kernel
theorem dX0_stand_28 : decode cX0_stand 28 = .ok (.ishl, 1) := by decide +kernel
theorem dX0_stand_29 : decode cX0_stand 29 = .ok (.ior, 1) := by decide +kernel
theorem dX0_stand_30 : decode cX0_stand 30 = .ok (.putfield 39, 3) := by decide +kernel
theorem dX0_stand_33 : decode cX0_stand 33 = .ok (.return_, 1) := by decide +kernel
theorem dX0_goAway_0 : decode cX0_goAway 0 = .ok (.aload_n 0, 1) := by decide +kernel
theorem dX0_goAway_1 : decode cX0_goAway 1 = .ok (.iload_n 1, 1) := by decide +kernel
theorem dX0_goAway_2 : decode cX0_goAway 2 = .ok (.putfield 9, 3) := by decide +kernel
theorem dX0_goAway_5 : decode cX0_goAway 5 = .ok (.aload_n 0, 1) := by decide +kernel
theorem dX0_goAway_6 : decode cX0_goAway 6 = .ok (.iconst (-1), 1) := by decide +kernel
theorem dX0_goAway_7 : decode cX0_goAway 7 = .ok (.putfield 15, 3) := by decide +kernel
theorem dX0_goAway_10 : decode cX0_goAway 10 = .ok (.aload_n 0, 1) := by decide +kernel
theorem dX0_goAway_11 : decode cX0_goAway 11 = .ok (.iconst 0, 1) := by decide +kernel
theorem dX0_goAway_12 : decode cX0_goAway 12 = .ok (.putfield 29, 3) := by decide +kernel
theorem dX0_goAway_15 : decode cX0_goAway 15 = .ok (.aload_n 0, 1) := by decide +kernel
theorem dX0_goAway_16 : decode cX0_goAway 16 = .ok (.iconst 0, 1) := by decide +kernel
theorem dX0_goAway_17 : decode cX0_goAway 17 = .ok (.putfield 32, 3) := by decide +kernel
theorem dX0_goAway_20 : decode cX0_goAway 20 = .ok (.return_, 1) := by decide +kernel
theorem dX1_init_0 : decode cX1_init 0 = .ok (.aload_n 0, 1) := by decide +kernel
theorem dX1_init_1 : decode cX1_init 1 = .ok (.invokespecial 3, 3) := by decide +kernel
theorem dX1_init_4 : decode cX1_init 4 = .ok (.aload_n 0, 1) := by decide +kernel
theorem dX1_init_5 : decode cX1_init 5 = .ok (.bipush 8, 2) := by decide +kernel
theorem dX1_init_7 : decode cX1_init 7 = .ok (.anewarray 9, 3) := by decide +kernel
theorem dX1_init_10 : decode cX1_init 10 = .ok (.putfield 11, 3) := by decide +kernel
theorem dX1_init_13 : decode cX1_init 13 = .ok (.aload_n 0, 1) := by decide +kernel
theorem dX1_init_14 : decode cX1_init 14 = .ok (.bipush 30, 2) := by decide +kernel
theorem dX1_init_16 : decode cX1_init 16 = .ok (.anewarray 17, 3) := by decide +kernel
theorem dX1_init_19 : decode cX1_init 19 = .ok (.putfield 19, 3) := by decide +kernel
theorem dX1_init_22 : decode cX1_init 22 = .ok (.aload_n 0, 1) := by decide +kernel
theorem dX1_init_23 : decode cX1_init 23 = .ok (.bipush 6, 2) := by decide +kernel
theorem dX1_init_25 : decode cX1_init 25 = .ok (.newarray .int, 2) := by decide +kernel
theorem dX1_init_27 : decode cX1_init 27 = .ok (.putfield 23, 3) := by decide +kernel
theorem dX1_init_30 : decode cX1_init 30 = .ok (.aload_n 0, 1) := by decide +kernel
theorem dX1_init_31 : decode cX1_init 31 = .ok (.new 27, 3) := by decide +kernel
theorem dX1_init_34 : decode cX1_init 34 = .ok (.dup, 1) := by decide +kernel
theorem dX1_init_35 : decode cX1_init 35 = .ok (.invokespecial 29, 3) := by decide +kernel
theorem dX1_init_38 : decode cX1_init 38 = .ok (.putfield 30, 3) := by decide +kernel
theorem dX1_init_41 : decode cX1_init 41 = .ok (.aload_n 0, 1) := by decide +kernel
theorem dX1_init_42 : decode cX1_init 42 = .ok (.new 27, 3) := by decide +kernel
theorem dX1_init_45 : decode cX1_init 45 = .ok (.dup, 1) := by decide +kernel
theorem dX1_init_46 : decode cX1_init 46 = .ok (.invokespecial 29, 3) := by decide +kernel
theorem dX1_init_49 : decode cX1_init 49 = .ok (.putfield 34, 3) := by decide +kernel
theorem dX1_init_52 : decode cX1_init 52 = .ok (.aload_n 0, 1) := by decide +kernel
theorem dX1_init_53 : decode cX1_init 53 = .ok (.new 27, 3) := by decide +kernel
theorem dX1_init_56 : decode cX1_init 56 = .ok (.dup, 1) := by decide +kernel
theorem dX1_init_57 : decode cX1_init 57 = .ok (.invokespecial 29, 3) := by decide +kernel
theorem dX1_init_60 : decode cX1_init 60 = .ok (.putfield 37, 3) := by decide +kernel
theorem dX1_init_63 : decode cX1_init 63 = .ok (.aload_n 0, 1) := by decide +kernel
theorem dX1_init_64 : decode cX1_init 64 = .ok (.bipush 10, 2) := by decide +kernel
theorem dX1_init_66 : decode cX1_init 66 = .ok (.putfield 40, 3) := by decide +kernel
theorem dX1_init_69 : decode cX1_init 69 = .ok (.iconst 0, 1) := by decide +kernel
theorem dX1_init_70 : decode cX1_init 70 = .ok (.istore_n 2, 1) := by decide +kernel
theorem dX1_init_71 : decode cX1_init 71 = .ok (.iload_n 2, 1) := by decide +kernel
theorem dX1_init_72 : decode cX1_init 72 = .ok (.aload_n 0, 1) := by decide +kernel
theorem dX1_init_73 : decode cX1_init 73 = .ok (.getfield 11, 3) := by decide +kernel
theorem dX1_init_76 : decode cX1_init 76 = .ok (.arraylength, 1) := by decide +kernel
theorem dX1_init_77 : decode cX1_init 77 = .ok (.if_icmp .ge 22, 3) := by decide +kernel
theorem dX1_init_80 : decode cX1_init 80 = .ok (.aload_n 0, 1) := by decide +kernel
theorem dX1_init_81 : decode cX1_init 81 = .ok (.getfield 11, 3) := by decide +kernel
theorem dX1_init_84 : decode cX1_init 84 = .ok (.iload_n 2, 1) := by decide +kernel
theorem dX1_init_85 : decode cX1_init 85 = .ok (.new 9, 3) := by decide +kernel
theorem dX1_init_88 : decode cX1_init 88 = .ok (.dup, 1) := by decide +kernel
theorem dX1_init_89 : decode cX1_init 89 = .ok (.invokespecial 44, 3) := by decide +kernel
theorem dX1_init_92 : decode cX1_init 92 = .ok (.aastore, 1) := by decide +kernel
theorem dX1_init_93 : decode cX1_init 93 = .ok (.iinc 2 1, 3) := by decide +kernel
theorem dX1_init_96 : decode cX1_init 96 = .ok (.goto (-25), 3) := by decide +kernel
theorem dX1_init_99 : decode cX1_init 99 = .ok (.iconst 0, 1) := by decide +kernel
theorem dX1_init_100 : decode cX1_init 100 = .ok (.istore_n 2, 1) := by decide +kernel
theorem dX1_init_101 : decode cX1_init 101 = .ok (.iload_n 2, 1) := by decide +kernel
theorem dX1_init_102 : decode cX1_init 102 = .ok (.aload_n 0, 1) := by decide +kernel
theorem dX1_init_103 : decode cX1_init 103 = .ok (.getfield 19, 3) := by decide +kernel
theorem dX1_init_106 : decode cX1_init 106 = .ok (.arraylength, 1) := by decide +kernel
theorem dX1_init_107 : decode cX1_init 107 = .ok (.if_icmp .ge 38, 3) := by decide +kernel
theorem dX1_init_110 : decode cX1_init 110 = .ok (.aload_n 0, 1) := by decide +kernel
theorem dX1_init_111 : decode cX1_init 111 = .ok (.getfield 19, 3) := by decide +kernel
theorem dX1_init_114 : decode cX1_init 114 = .ok (.iload_n 2, 1) := by decide +kernel
theorem dX1_init_115 : decode cX1_init 115 = .ok (.new 17, 3) := by decide +kernel
theorem dX1_init_118 : decode cX1_init 118 = .ok (.dup, 1) := by decide +kernel
theorem dX1_init_119 : decode cX1_init 119 = .ok (.iload_n 2, 1) := by decide +kernel
theorem dX1_init_120 : decode cX1_init 120 = .ok (.iload_n 1, 1) := by decide +kernel
theorem dX1_init_121 : decode cX1_init 121 = .ok (.ifCond .eq 13, 3) := by decide +kernel
theorem dX1_init_124 : decode cX1_init 124 = .ok (.new 45, 3) := by decide +kernel
theorem dX1_init_127 : decode cX1_init 127 = .ok (.dup, 1) := by decide +kernel
theorem dX1_init_128 : decode cX1_init 128 = .ok (.invokespecial 47, 3) := by decide +kernel
theorem dX1_init_131 : decode cX1_init 131 = .ok (.goto 4, 3) := by decide +kernel
theorem dX1_init_134 : decode cX1_init 134 = .ok (.aconst_null, 1) := by decide +kernel
theorem dX1_init_135 : decode cX1_init 135 = .ok (.invokespecial 48, 3) := by decide +kernel
theorem dX1_init_138 : decode cX1_init 138 = .ok (.aastore, 1) := by decide +kernel
theorem dX1_init_139 : decode cX1_init 139 = .ok (.iinc 2 1, 3) := by decide +kernel
theorem dX1_init_142 : decode cX1_init 142 = .ok (.goto (-41), 3) := by decide +kernel
theorem dX1_init_145 : decode cX1_init 145 = .ok (.return_, 1) := by decide +kernel
theorem dX1_copyFrom_0 : decode cX1_copyFrom 0 = .ok (.aload_n 0, 1) := by decide +kernel
theorem dX1_copyFrom_1 : decode cX1_copyFrom 1 = .ok (.aload_n 1, 1) := by decide +kernel
theorem dX1_copyFrom_2 : decode cX1_copyFrom 2 = .ok (.getfield 51, 3) := by decide +kernel
theorem dX1_copyFrom_5 : decode cX1_copyFrom 5 = .ok (.putfield 51, 3) := by decide +kernel
theorem dX1_copyFrom_8 : decode cX1_copyFrom 8 = .ok (.aload_n 0, 1) := by decide +kernel
theorem dX1_copyFrom_9 : decode cX1_copyFrom 9 = .ok (.aload_n 1, 1) := by decide +kernel
theorem dX1_copyFrom_10 : decode cX1_copyFrom 10 = .ok (.getfield 54, 3) := by decide +kernel
theorem dX1_copyFrom_13 : decode cX1_copyFrom 13 = .ok (.putfield 54, 3) := by decide +kernel
theorem dX1_copyFrom_16 : decode cX1_copyFrom 16 = .ok (.aload_n 0, 1) := by decide +kernel
theorem dX1_copyFrom_17 : decode cX1_copyFrom 17 = .ok (.aload_n 1, 1) := by decide +kernel
theorem dX1_copyFrom_18 : decode cX1_copyFrom 18 = .ok (.getfield 57, 3) := by decide +kernel
theorem dX1_copyFrom_21 : decode cX1_copyFrom 21 = .ok (.putfield 57, 3) := by decide +kernel
theorem dX1_copyFrom_24 : decode cX1_copyFrom 24 = .ok (.aload_n 0, 1) := by decide +kernel
theorem dX1_copyFrom_25 : decode cX1_copyFrom 25 = .ok (.aload_n 1, 1) := by decide +kernel
theorem dX1_copyFrom_26 : decode cX1_copyFrom 26 = .ok (.getfield 40, 3) := by decide +kernel
theorem dX1_copyFrom_29 : decode cX1_copyFrom 29 = .ok (.putfield 40, 3) := by decide +kernel
theorem dX1_copyFrom_32 : decode cX1_copyFrom 32 = .ok (.iconst 0, 1) := by decide +kernel
theorem dX1_copyFrom_33 : decode cX1_copyFrom 33 = .ok (.istore_n 2, 1) := by decide +kernel
theorem dX1_copyFrom_34 : decode cX1_copyFrom 34 = .ok (.iload_n 2, 1) := by decide +kernel
theorem dX1_copyFrom_35 : decode cX1_copyFrom 35 = .ok (.aload_n 0, 1) := by decide +kernel
theorem dX1_copyFrom_36 : decode cX1_copyFrom 36 = .ok (.getfield 23, 3) := by decide +kernel
theorem dX1_copyFrom_39 : decode cX1_copyFrom 39 = .ok (.arraylength, 1) := by decide +kernel
theorem dX1_copyFrom_40 : decode cX1_copyFrom 40 = .ok (.if_icmp .ge 20, 3) := by decide +kernel
theorem dX1_copyFrom_43 : decode cX1_copyFrom 43 = .ok (.aload_n 0, 1) := by decide +kernel
theorem dX1_copyFrom_44 : decode cX1_copyFrom 44 = .ok (.getfield 23, 3) := by decide +kernel
theorem dX1_copyFrom_47 : decode cX1_copyFrom 47 = .ok (.iload_n 2, 1) := by decide +kernel
theorem dX1_copyFrom_48 : decode cX1_copyFrom 48 = .ok (.aload_n 1, 1) := by decide +kernel
theorem dX1_copyFrom_49 : decode cX1_copyFrom 49 = .ok (.iload_n 2, 1) := by decide +kernel
theorem dX1_copyFrom_50 : decode cX1_copyFrom 50 = .ok (.invokevirtual 60, 3) := by decide +kernel
theorem dX1_copyFrom_53 : decode cX1_copyFrom 53 = .ok (.iastore, 1) := by decide +kernel
theorem dX1_copyFrom_54 : decode cX1_copyFrom 54 = .ok (.iinc 2 1, 3) := by decide +kernel
theorem dX1_copyFrom_57 : decode cX1_copyFrom 57 = .ok (.goto (-23), 3) := by decide +kernel
theorem dX1_copyFrom_60 : decode cX1_copyFrom 60 = .ok (.iconst 0, 1) := by decide +kernel
theorem dX1_copyFrom_61 : decode cX1_copyFrom 61 = .ok (.istore_n 2, 1) := by decide +kernel
theorem dX1_copyFrom_62 : decode cX1_copyFrom 62 = .ok (.iload_n 2, 1) := by decide +kernel
theorem dX1_copyFrom_63 : decode cX1_copyFrom 63 = .ok (.aload_n 0, 1) := by decide +kernel
theorem dX1_copyFrom_64 : decode cX1_copyFrom 64 = .ok (.getfield 51, 3) := by decide +kernel
theorem dX1_copyFrom_67 : decode cX1_copyFrom 67 = .ok (.if_icmp .ge 22, 3) := by decide +kernel
theorem dX1_copyFrom_70 : decode cX1_copyFrom 70 = .ok (.aload_n 0, 1) := by decide +kernel
theorem dX1_copyFrom_71 : decode cX1_copyFrom 71 = .ok (.iload_n 2, 1) := by decide +kernel
theorem dX1_copyFrom_72 : decode cX1_copyFrom 72 = .ok (.invokevirtual 64, 3) := by decide +kernel
theorem dX1_copyFrom_75 : decode cX1_copyFrom 75 = .ok (.aload_n 1, 1) := by decide +kernel
theorem dX1_copyFrom_76 : decode cX1_copyFrom 76 = .ok (.iload_n 2, 1) := by decide +kernel
theorem dX1_copyFrom_77 : decode cX1_copyFrom 77 = .ok (.invokevirtual 64, 3) := by decide +kernel
theorem dX1_copyFrom_80 : decode cX1_copyFrom 80 = .ok (.invokestatic 68, 3) := by decide +kernel
theorem dX1_copyFrom_83 : decode cX1_copyFrom 83 = .ok (.iinc 2 1, 3) := by decide +kernel
theorem dX1_copyFrom_86 : decode cX1_copyFrom 86 = .ok (.goto (-24), 3) := by decide +kernel
theorem dX1_copyFrom_89 : decode cX1_copyFrom 89 = .ok (.iconst 0, 1) := by decide +kernel
theorem dX1_copyFrom_90 : decode cX1_copyFrom 90 = .ok (.istore_n 2, 1) := by decide +kernel
theorem dX1_copyFrom_91 : decode cX1_copyFrom 91 = .ok (.iload_n 2, 1) := by decide +kernel
theorem dX1_copyFrom_92 : decode cX1_copyFrom 92 = .ok (.aload_n 0, 1) := by decide +kernel
theorem dX1_copyFrom_93 : decode cX1_copyFrom 93 = .ok (.getfield 54, 3) := by decide +kernel
theorem dX1_copyFrom_96 : decode cX1_copyFrom 96 = .ok (.if_icmp .ge 22, 3) := by decide +kernel
theorem dX1_copyFrom_99 : decode cX1_copyFrom 99 = .ok (.aload_n 0, 1) := by decide +kernel
theorem dX1_copyFrom_100 : decode cX1_copyFrom 100 = .ok (.iload_n 2, 1) := by decide +kernel
theorem dX1_copyFrom_101 : decode cX1_copyFrom 101 = .ok (.invokevirtual 72, 3) := by decide +kernel
theorem dX1_copyFrom_104 : decode cX1_copyFrom 104 = .ok (.aload_n 1, 1) := by decide +kernel
theorem dX1_copyFrom_105 : decode cX1_copyFrom 105 = .ok (.iload_n 2, 1) := by decide +kernel
theorem dX1_copyFrom_106 : decode cX1_copyFrom 106 = .ok (.invokevirtual 72, 3) := by decide +kernel
theorem dX1_copyFrom_109 : decode cX1_copyFrom 109 = .ok (.invokestatic 76, 3) := by decide +kernel
theorem dX1_copyFrom_112 : decode cX1_copyFrom 112 = .ok (.iinc 2 1, 3) := by decide +kernel
theorem dX1_copyFrom_115 : decode cX1_copyFrom 115 = .ok (.goto (-24), 3) := by decide +kernel
theorem dX1_copyFrom_118 : decode cX1_copyFrom 118 = .ok (.aload_n 0, 1) := by decide +kernel
theorem dX1_copyFrom_119 : decode cX1_copyFrom 119 = .ok (.getfield 30, 3) := by decide +kernel
theorem dX1_copyFrom_122 : decode cX1_copyFrom 122 = .ok (.aload_n 1, 1) := by decide +kernel
theorem dX1_copyFrom_123 : decode cX1_copyFrom 123 = .ok (.getfield 30, 3) := by decide +kernel
theorem dX1_copyFrom_126 : decode cX1_copyFrom 126 = .ok (.invokevirtual 80, 3) := by decide +kernel
theorem dX1_copyFrom_129 : decode cX1_copyFrom 129 = .ok (.aload_n 0, 1) := by decide +kernel
theorem dX1_copyFrom_130 : decode cX1_copyFrom 130 = .ok (.getfield 34, 3) := by decide +kernel
theorem dX1_copyFrom_133 : decode cX1_copyFrom 133 = .ok (.aload_n 1, 1) := by decide +kernel
theorem dX1_copyFrom_134 : decode cX1_copyFrom 134 = .ok (.getfield 34, 3) := by decide +kernel
theorem dX1_copyFrom_137 : decode cX1_copyFrom 137 = .ok (.invokevirtual 80, 3) := by decide +kernel
theorem dX1_copyFrom_140 : decode cX1_copyFrom 140 = .ok (.aload_n 0, 1) := by decide +kernel
theorem dX1_copyFrom_141 : decode cX1_copyFrom 141 = .ok (.getfield 37, 3) := by decide +kernel
theorem dX1_copyFrom_144 : decode cX1_copyFrom 144 = .ok (.aload_n 1, 1) := by decide +kernel
theorem dX1_copyFrom_145 : decode cX1_copyFrom 145 = .ok (.getfield 37, 3) := by decide +kernel
theorem dX1_copyFrom_148 : decode cX1_copyFrom 148 = .ok (.invokevirtual 80, 3) := by decide +kernel
theorem dX1_copyFrom_151 : decode cX1_copyFrom 151 = .ok (.return_, 1) := by decide +kernel
theorem dX1_copyStation_0 : decode cX1_copyStation 0 = .ok (.aload_n 0, 1) := by decide +kernel
theorem dX1_copyStation_1 : decode cX1_copyStation 1 = .ok (.ifnull 12, 3) := by decide +kernel
theorem dX1_copyStation_4 : decode cX1_copyStation 4 = .ok (.aload_n 1, 1) := by decide +kernel
theorem dX1_copyStation_5 : decode cX1_copyStation 5 = .ok (.ifnull 8, 3) := by decide +kernel
theorem dX1_copyStation_8 : decode cX1_copyStation 8 = .ok (.aload_n 0, 1) := by decide +kernel
theorem dX1_copyStation_9 : decode cX1_copyStation 9 = .ok (.aload_n 1, 1) := by decide +kernel
theorem dX1_copyStation_10 : decode cX1_copyStation 10 = .ok (.invokevirtual 84, 3) := by decide +kernel
theorem dX1_copyStation_13 : decode cX1_copyStation 13 = .ok (.return_, 1) := by decide +kernel
theorem dX1_copyCar_0 : decode cX1_copyCar 0 = .ok (.aload_n 0, 1) := by decide +kernel
theorem dX1_copyCar_1 : decode cX1_copyCar 1 = .ok (.ifnull 12, 3) := by decide +kernel
theorem dX1_copyCar_4 : decode cX1_copyCar 4 = .ok (.aload_n 1, 1) := by decide +kernel
theorem dX1_copyCar_5 : decode cX1_copyCar 5 = .ok (.ifnull 8, 3) := by decide +kernel
theorem dX1_copyCar_8 : decode cX1_copyCar 8 = .ok (.aload_n 0, 1) := by decide +kernel
theorem dX1_copyCar_9 : decode cX1_copyCar 9 = .ok (.aload_n 1, 1) := by decide +kernel
theorem dX1_copyCar_10 : decode cX1_copyCar 10 = .ok (.invokevirtual 87, 3) := by decide +kernel
theorem dX1_copyCar_13 : decode cX1_copyCar 13 = .ok (.return_, 1) := by decide +kernel
theorem dX1_findStation_0 : decode cX1_findStation 0 = .ok (.iload_n 1, 1) := by decide +kernel
theorem dX1_findStation_1 : decode cX1_findStation 1 = .ok (.ifCond .lt 29, 3) := by decide +kernel
theorem dX1_findStation_4 : decode cX1_findStation 4 = .ok (.iload_n 1, 1) := by decide +kernel
theorem dX1_findStation_5 : decode cX1_findStation 5 = .ok (.aload_n 0, 1) := by decide +kernel
theorem dX1_findStation_6 : decode cX1_findStation 6 = .ok (.getfield 51, 3) := by decide +kernel
theorem dX1_findStation_9 : decode cX1_findStation 9 = .ok (.if_icmp .ge 21, 3) := by decide +kernel
theorem dX1_findStation_12 : decode cX1_findStation 12 = .ok (.iload_n 1, 1) := by decide +kernel
theorem dX1_findStation_13 : decode cX1_findStation 13 = .ok (.aload_n 0, 1) := by decide +kernel
theorem dX1_findStation_14 : decode cX1_findStation 14 = .ok (.getfield 11, 3) := by decide +kernel
theorem dX1_findStation_17 : decode cX1_findStation 17 = .ok (.arraylength, 1) := by decide +kernel
theorem dX1_findStation_18 : decode cX1_findStation 18 = .ok (.if_icmp .ge 12, 3) := by decide +kernel
theorem dX1_findStation_21 : decode cX1_findStation 21 = .ok (.aload_n 0, 1) := by decide +kernel
theorem dX1_findStation_22 : decode cX1_findStation 22 = .ok (.getfield 11, 3) := by decide +kernel
theorem dX1_findStation_25 : decode cX1_findStation 25 = .ok (.iload_n 1, 1) := by decide +kernel
theorem dX1_findStation_26 : decode cX1_findStation 26 = .ok (.aaload, 1) := by decide +kernel
theorem dX1_findStation_27 : decode cX1_findStation 27 = .ok (.goto 4, 3) := by decide +kernel
theorem dX1_findStation_30 : decode cX1_findStation 30 = .ok (.aconst_null, 1) := by decide +kernel
theorem dX1_findStation_31 : decode cX1_findStation 31 = .ok (.areturn, 1) := by decide +kernel
theorem dX1_findCar_0 : decode cX1_findCar 0 = .ok (.iload_n 1, 1) := by decide +kernel
theorem dX1_findCar_1 : decode cX1_findCar 1 = .ok (.ifCond .lt 29, 3) := by decide +kernel
theorem dX1_findCar_4 : decode cX1_findCar 4 = .ok (.iload_n 1, 1) := by decide +kernel
theorem dX1_findCar_5 : decode cX1_findCar 5 = .ok (.aload_n 0, 1) := by decide +kernel
theorem dX1_findCar_6 : decode cX1_findCar 6 = .ok (.getfield 54, 3) := by decide +kernel
theorem dX1_findCar_9 : decode cX1_findCar 9 = .ok (.if_icmp .ge 21, 3) := by decide +kernel
theorem dX1_findCar_12 : decode cX1_findCar 12 = .ok (.iload_n 1, 1) := by decide +kernel
theorem dX1_findCar_13 : decode cX1_findCar 13 = .ok (.aload_n 0, 1) := by decide +kernel
theorem dX1_findCar_14 : decode cX1_findCar 14 = .ok (.getfield 19, 3) := by decide +kernel
theorem dX1_findCar_17 : decode cX1_findCar 17 = .ok (.arraylength, 1) := by decide +kernel
theorem dX1_findCar_18 : decode cX1_findCar 18 = .ok (.if_icmp .ge 12, 3) := by decide +kernel
theorem dX1_findCar_21 : decode cX1_findCar 21 = .ok (.aload_n 0, 1) := by decide +kernel
theorem dX1_findCar_22 : decode cX1_findCar 22 = .ok (.getfield 19, 3) := by decide +kernel
theorem dX1_findCar_25 : decode cX1_findCar 25 = .ok (.iload_n 1, 1) := by decide +kernel
theorem dX1_findCar_26 : decode cX1_findCar 26 = .ok (.aaload, 1) := by decide +kernel
theorem dX1_findCar_27 : decode cX1_findCar 27 = .ok (.goto 4, 3) := by decide +kernel
theorem dX1_findCar_30 : decode cX1_findCar 30 = .ok (.aconst_null, 1) := by decide +kernel
theorem dX1_findCar_31 : decode cX1_findCar 31 = .ok (.areturn, 1) := by decide +kernel
theorem dX1_unitsOf_0 : decode cX1_unitsOf 0 = .ok (.iload_n 1, 1) := by decide +kernel
theorem dX1_unitsOf_1 : decode cX1_unitsOf 1 = .ok (.ifCond .lt 21, 3) := by decide +kernel
theorem dX1_unitsOf_4 : decode cX1_unitsOf 4 = .ok (.iload_n 1, 1) := by decide +kernel
theorem dX1_unitsOf_5 : decode cX1_unitsOf 5 = .ok (.aload_n 0, 1) := by decide +kernel
theorem dX1_unitsOf_6 : decode cX1_unitsOf 6 = .ok (.getfield 23, 3) := by decide +kernel
theorem dX1_unitsOf_9 : decode cX1_unitsOf 9 = .ok (.arraylength, 1) := by decide +kernel
theorem dX1_unitsOf_10 : decode cX1_unitsOf 10 = .ok (.if_icmp .ge 12, 3) := by decide +kernel
theorem dX1_unitsOf_13 : decode cX1_unitsOf 13 = .ok (.aload_n 0, 1) := by decide +kernel
theorem dX1_unitsOf_14 : decode cX1_unitsOf 14 = .ok (.getfield 23, 3) := by decide +kernel
theorem dX1_unitsOf_17 : decode cX1_unitsOf 17 = .ok (.iload_n 1, 1) := by decide +kernel
theorem dX1_unitsOf_18 : decode cX1_unitsOf 18 = .ok (.iaload, 1) := by decide +kernel
theorem dX1_unitsOf_19 : decode cX1_unitsOf 19 = .ok (.goto 4, 3) := by decide +kernel
theorem dX1_unitsOf_22 : decode cX1_unitsOf 22 = .ok (.iconst 0, 1) := by decide +kernel
theorem dX1_unitsOf_23 : decode cX1_unitsOf 23 = .ok (.ireturn, 1) := by decide +kernel
theorem dX1_changeUnits_0 : decode cX1_changeUnits 0 = .ok (.iload_n 1, 1) := by decide +kernel
theorem dX1_changeUnits_1 : decode cX1_changeUnits 1 = .ok (.ifCond .lt 22, 3) := by decide +kernel
theorem dX1_changeUnits_4 : decode cX1_changeUnits 4 = .ok (.iload_n 1, 1) := by decide +kernel
theorem dX1_changeUnits_5 : decode cX1_changeUnits 5 = .ok (.aload_n 0, 1) := by decide +kernel
theorem dX1_changeUnits_6 : decode cX1_changeUnits 6 = .ok (.getfield 23, 3) := by decide +kernel
theorem dX1_changeUnits_9 : decode cX1_changeUnits 9 = .ok (.arraylength, 1) := by decide +kernel
theorem dX1_changeUnits_10 : decode cX1_changeUnits 10 = .ok (.if_icmp .ge 13, 3) := by decide +kernel
theorem dX1_changeUnits_13 : decode cX1_changeUnits 13 = .ok (.aload_n 0, 1) := by decide +kernel
theorem dX1_changeUnits_14 : decode cX1_changeUnits 14 = .ok (.getfield 23, 3) := by decide +kernel
theorem dX1_changeUnits_17 : decode cX1_changeUnits 17 = .ok (.iload_n 1, 1) := by decide +kernel
theorem dX1_changeUnits_18 : decode cX1_changeUnits 18 = .ok (.dup2, 1) := by decide +kernel
theorem dX1_changeUnits_19 : decode cX1_changeUnits 19 = .ok (.iaload, 1) := by decide +kernel
theorem dX1_changeUnits_20 : decode cX1_changeUnits 20 = .ok (.iload_n 2, 1) := by decide +kernel
theorem dX1_changeUnits_21 : decode cX1_changeUnits 21 = .ok (.iadd, 1) := by decide +kernel
theorem dX1_changeUnits_22 : decode cX1_changeUnits 22 = .ok (.iastore, 1) := by decide +kernel
theorem dX1_changeUnits_23 : decode cX1_changeUnits 23 = .ok (.return_, 1) := by decide +kernel
theorem dX1_appendStation_0 : decode cX1_appendStation 0 = .ok (.aload_n 0, 1) := by decide +kernel
theorem dX1_appendStation_1 : decode cX1_appendStation 1 = .ok (.getfield 51, 3) := by decide +kernel
theorem dX1_appendStation_4 : decode cX1_appendStation 4 = .ok (.istore 5, 2) := by decide +kernel
theorem dX1_appendStation_6 : decode cX1_appendStation 6 = .ok (.aload_n 0, 1) := by decide +kernel
theorem dX1_appendStation_7 : decode cX1_appendStation 7 = .ok (.dup, 1) := by decide +kernel
theorem dX1_appendStation_8 : decode cX1_appendStation 8 = .ok (.getfield 51, 3) := by decide +kernel
theorem dX1_appendStation_11 : decode cX1_appendStation 11 = .ok (.iconst 1, 1) := by decide +kernel
theorem dX1_appendStation_12 : decode cX1_appendStation 12 = .ok (.iadd, 1) := by decide +kernel
theorem dX1_appendStation_13 : decode cX1_appendStation 13 = .ok (.putfield 51, 3) := by decide +kernel
theorem dX1_appendStation_16 : decode cX1_appendStation 16 = .ok (.aload_n 0, 1) := by decide +kernel
theorem dX1_appendStation_17 : decode cX1_appendStation 17 = .ok (.iload 5, 2) := by decide +kernel
theorem dX1_appendStation_19 : decode cX1_appendStation 19 = .ok (.invokevirtual 64, 3) := by decide +kernel
theorem dX1_appendStation_22 : decode cX1_appendStation 22 = .ok (.astore 6, 2) := by decide +kernel
theorem dX1_appendStation_24 : decode cX1_appendStation 24 = .ok (.aload 6, 2) := by decide +kernel
theorem dX1_appendStation_26 : decode cX1_appendStation 26 = .ok (.ifnull 13, 3) := by decide +kernel
theorem dX1_appendStation_29 : decode cX1_appendStation 29 = .ok (.aload 6, 2) := by decide +kernel
theorem dX1_appendStation_31 : decode cX1_appendStation 31 = .ok (.iload_n 1, 1) := by decide +kernel
theorem dX1_appendStation_32 : decode cX1_appendStation 32 = .ok (.iload_n 2, 1) := by decide +kernel
theorem dX1_appendStation_33 : decode cX1_appendStation 33 = .ok (.iload_n 3, 1) := by decide +kernel
theorem dX1_appendStation_34 : decode cX1_appendStation 34 = .ok (.iload 4, 2) := by decide +kernel
theorem dX1_appendStation_36 : decode cX1_appendStation 36 = .ok (.invokevirtual 90, 3) := by decide +kernel
theorem dX1_appendStation_39 : decode cX1_appendStation 39 = .ok (.iload 5, 2) := by decide +kernel
theorem dX1_appendStation_41 : decode cX1_appendStation 41 = .ok (.ireturn, 1) := by decide +kernel
theorem dX1_appendCar_0 : decode cX1_appendCar 0 = .ok (.aload_n 0, 1) := by decide +kernel
theorem dX1_appendCar_1 : decode cX1_appendCar 1 = .ok (.getfield 54, 3) := by decide +kernel
theorem dX1_appendCar_4 : decode cX1_appendCar 4 = .ok (.istore_n 2, 1) := by decide +kernel
theorem dX1_appendCar_5 : decode cX1_appendCar 5 = .ok (.aload_n 0, 1) := by decide +kernel
theorem dX1_appendCar_6 : decode cX1_appendCar 6 = .ok (.dup, 1) := by decide +kernel
theorem dX1_appendCar_7 : decode cX1_appendCar 7 = .ok (.getfield 54, 3) := by decide +kernel
theorem dX1_appendCar_10 : decode cX1_appendCar 10 = .ok (.iconst 1, 1) := by decide +kernel
theorem dX1_appendCar_11 : decode cX1_appendCar 11 = .ok (.iadd, 1) := by decide +kernel
theorem dX1_appendCar_12 : decode cX1_appendCar 12 = .ok (.putfield 54, 3) := by decide +kernel
theorem dX1_appendCar_15 : decode cX1_appendCar 15 = .ok (.aload_n 0, 1) := by decide +kernel
theorem dX1_appendCar_16 : decode cX1_appendCar 16 = .ok (.iload_n 2, 1) := by decide +kernel
theorem dX1_appendCar_17 : decode cX1_appendCar 17 = .ok (.invokevirtual 72, 3) := by decide +kernel
theorem dX1_appendCar_20 : decode cX1_appendCar 20 = .ok (.astore_n 3, 1) := by decide +kernel
theorem dX1_appendCar_21 : decode cX1_appendCar 21 = .ok (.aload_n 3, 1) := by decide +kernel
theorem dX1_appendCar_22 : decode cX1_appendCar 22 = .ok (.ifnull 8, 3) := by decide +kernel
theorem dX1_appendCar_25 : decode cX1_appendCar 25 = .ok (.aload_n 3, 1) := by decide +kernel
theorem dX1_appendCar_26 : decode cX1_appendCar 26 = .ok (.iload_n 1, 1) := by decide +kernel
theorem dX1_appendCar_27 : decode cX1_appendCar 27 = .ok (.putfield 94, 3) := by decide +kernel
theorem dX1_appendCar_30 : decode cX1_appendCar 30 = .ok (.aload_n 0, 1) := by decide +kernel
theorem dX1_appendCar_31 : decode cX1_appendCar 31 = .ok (.getfield 30, 3) := by decide +kernel
theorem dX1_appendCar_34 : decode cX1_appendCar 34 = .ok (.iload_n 2, 1) := by decide +kernel
theorem dX1_appendCar_35 : decode cX1_appendCar 35 = .ok (.invokevirtual 97, 3) := by decide +kernel
theorem dX1_appendCar_38 : decode cX1_appendCar 38 = .ok (.iload_n 2, 1) := by decide +kernel
theorem dX1_appendCar_39 : decode cX1_appendCar 39 = .ok (.ireturn, 1) := by decide +kernel
theorem dX1_hasGone_0 : decode cX1_hasGone 0 = .ok (.aload_n 0, 1) := by decide +kernel
theorem dX1_hasGone_1 : decode cX1_hasGone 1 = .ok (.iload_n 1, 1) := by decide +kernel
theorem dX1_hasGone_2 : decode cX1_hasGone 2 = .ok (.invokevirtual 72, 3) := by decide +kernel
theorem dX1_hasGone_5 : decode cX1_hasGone 5 = .ok (.astore_n 2, 1) := by decide +kernel
theorem dX1_hasGone_6 : decode cX1_hasGone 6 = .ok (.aload_n 2, 1) := by decide +kernel
theorem dX1_hasGone_7 : decode cX1_hasGone 7 = .ok (.ifnull 16, 3) := by decide +kernel
theorem dX1_hasGone_10 : decode cX1_hasGone 10 = .ok (.aload_n 2, 1) := by decide +kernel
theorem dX1_hasGone_11 : decode cX1_hasGone 11 = .ok (.getfield 101, 3) := by decide +kernel
theorem dX1_hasGone_14 : decode cX1_hasGone 14 = .ok (.bipush 100, 2) := by decide +kernel
theorem dX1_hasGone_16 : decode cX1_hasGone 16 = .ok (.if_icmp .ne 7, 3) := by decide +kernel
theorem dX1_hasGone_19 : decode cX1_hasGone 19 = .ok (.iconst 1, 1) := by decide +kernel
theorem dX1_hasGone_20 : decode cX1_hasGone 20 = .ok (.goto 4, 3) := by decide +kernel
theorem dX1_hasGone_23 : decode cX1_hasGone 23 = .ok (.iconst 0, 1) := by decide +kernel
theorem dX1_hasGone_24 : decode cX1_hasGone 24 = .ok (.ireturn, 1) := by decide +kernel
theorem dX1_ticksToRound_0 : decode cX1_ticksToRound 0 = .ok (.aload_n 0, 1) := by decide +kernel
theorem dX1_ticksToRound_1 : decode cX1_ticksToRound 1 = .ok (.getfield 40, 3) := by decide +kernel
theorem dX1_ticksToRound_4 : decode cX1_ticksToRound 4 = .ok (.ifCond .le 20, 3) := by decide +kernel
theorem dX1_ticksToRound_7 : decode cX1_ticksToRound 7 = .ok (.aload_n 0, 1) := by decide +kernel
theorem dX1_ticksToRound_8 : decode cX1_ticksToRound 8 = .ok (.getfield 40, 3) := by decide +kernel
theorem dX1_ticksToRound_11 : decode cX1_ticksToRound 11 = .ok (.aload_n 0, 1) := by decide +kernel
theorem dX1_ticksToRound_12 : decode cX1_ticksToRound 12 = .ok (.getfield 57, 3) := by decide +kernel
theorem dX1_ticksToRound_15 : decode cX1_ticksToRound 15 = .ok (.aload_n 0, 1) := by decide +kernel
theorem dX1_ticksToRound_16 : decode cX1_ticksToRound 16 = .ok (.getfield 40, 3) := by decide +kernel
theorem dX1_ticksToRound_19 : decode cX1_ticksToRound 19 = .ok (.irem, 1) := by decide +kernel
theorem dX1_ticksToRound_20 : decode cX1_ticksToRound 20 = .ok (.isub, 1) := by decide +kernel
theorem dX1_ticksToRound_21 : decode cX1_ticksToRound 21 = .ok (.goto 4, 3) := by decide +kernel
theorem dX1_ticksToRound_24 : decode cX1_ticksToRound 24 = .ok (.iconst 1, 1) := by decide +kernel
theorem dX1_ticksToRound_25 : decode cX1_ticksToRound 25 = .ok (.ireturn, 1) := by decide +kernel
theorem dX1_ticksOfGone_0 : decode cX1_ticksOfGone 0 = .ok (.lconst 0, 1) := by decide +kernel
theorem dX1_ticksOfGone_1 : decode cX1_ticksOfGone 1 = .ok (.lstore_n 1, 1) := by decide +kernel
theorem dX1_ticksOfGone_2 : decode cX1_ticksOfGone 2 = .ok (.iconst 0, 1) := by decide +kernel
theorem dX1_ticksOfGone_3 : decode cX1_ticksOfGone 3 = .ok (.istore_n 3, 1) := by decide +kernel
theorem dX1_ticksOfGone_4 : decode cX1_ticksOfGone 4 = .ok (.iload_n 3, 1) := by decide +kernel
theorem dX1_ticksOfGone_5 : decode cX1_ticksOfGone 5 = .ok (.aload_n 0, 1) := by decide +kernel
theorem dX1_ticksOfGone_6 : decode cX1_ticksOfGone 6 = .ok (.getfield 37, 3) := by decide +kernel
theorem dX1_ticksOfGone_9 : decode cX1_ticksOfGone 9 = .ok (.getfield 105, 3) := by decide +kernel
theorem dX1_ticksOfGone_12 : decode cX1_ticksOfGone 12 = .ok (.if_icmp .ge 43, 3) := by decide +kernel
theorem dX1_ticksOfGone_15 : decode cX1_ticksOfGone 15 = .ok (.aload_n 0, 1) := by decide +kernel
theorem dX1_ticksOfGone_16 : decode cX1_ticksOfGone 16 = .ok (.aload_n 0, 1) := by decide +kernel
theorem dX1_ticksOfGone_17 : decode cX1_ticksOfGone 17 = .ok (.getfield 37, 3) := by decide +kernel
theorem dX1_ticksOfGone_20 : decode cX1_ticksOfGone 20 = .ok (.iload_n 3, 1) := by decide +kernel
theorem dX1_ticksOfGone_21 : decode cX1_ticksOfGone 21 = .ok (.invokevirtual 108, 3) := by decide +kernel
theorem dX1_ticksOfGone_24 : decode cX1_ticksOfGone 24 = .ok (.invokevirtual 72, 3) := by decide +kernel
theorem dX1_ticksOfGone_27 : decode cX1_ticksOfGone 27 = .ok (.astore 4, 2) := by decide +kernel
theorem dX1_ticksOfGone_29 : decode cX1_ticksOfGone 29 = .ok (.aload 4, 2) := by decide +kernel
theorem dX1_ticksOfGone_31 : decode cX1_ticksOfGone 31 = .ok (.ifnull 18, 3) := by decide +kernel
theorem dX1_ticksOfGone_34 : decode cX1_ticksOfGone 34 = .ok (.lload_n 1, 1) := by decide +kernel
theorem dX1_ticksOfGone_35 : decode cX1_ticksOfGone 35 = .ok (.aload 4, 2) := by decide +kernel
theorem dX1_ticksOfGone_37 : decode cX1_ticksOfGone 37 = .ok (.getfield 111, 3) := by decide +kernel
theorem dX1_ticksOfGone_40 : decode cX1_ticksOfGone 40 = .ok (.aload 4, 2) := by decide +kernel
theorem dX1_ticksOfGone_42 : decode cX1_ticksOfGone 42 = .ok (.getfield 114, 3) := by decide +kernel
theorem dX1_ticksOfGone_45 : decode cX1_ticksOfGone 45 = .ok (.isub, 1) := by decide +kernel
theorem dX1_ticksOfGone_46 : decode cX1_ticksOfGone 46 = .ok (.i2l, 1) := by decide +kernel
theorem dX1_ticksOfGone_47 : decode cX1_ticksOfGone 47 = .ok (.ladd, 1) := by decide +kernel
theorem dX1_ticksOfGone_48 : decode cX1_ticksOfGone 48 = .ok (.lstore_n 1, 1) := by decide +kernel
theorem dX1_ticksOfGone_49 : decode cX1_ticksOfGone 49 = .ok (.iinc 3 1, 3) := by decide +kernel
theorem dX1_ticksOfGone_52 : decode cX1_ticksOfGone 52 = .ok (.goto (-48), 3) := by decide +kernel
theorem dX1_ticksOfGone_55 : decode cX1_ticksOfGone 55 = .ok (.lload_n 1, 1) := by decide +kernel
theorem dX1_ticksOfGone_56 : decode cX1_ticksOfGone 56 = .ok (.lreturn, 1) := by decide +kernel
theorem dX1_totalOf_0 : decode cX1_totalOf 0 = .ok (.iconst 0, 1) := by decide +kernel
theorem dX1_totalOf_1 : decode cX1_totalOf 1 = .ok (.istore_n 2, 1) := by decide +kernel
theorem dX1_totalOf_2 : decode cX1_totalOf 2 = .ok (.iconst 0, 1) := by decide +kernel
theorem dX1_totalOf_3 : decode cX1_totalOf 3 = .ok (.istore_n 3, 1) := by decide +kernel
theorem dX1_totalOf_4 : decode cX1_totalOf 4 = .ok (.iload_n 3, 1) := by decide +kernel
theorem dX1_totalOf_5 : decode cX1_totalOf 5 = .ok (.aload_n 0, 1) := by decide +kernel
theorem dX1_totalOf_6 : decode cX1_totalOf 6 = .ok (.getfield 54, 3) := by decide +kernel
theorem dX1_totalOf_9 : decode cX1_totalOf 9 = .ok (.if_icmp .ge 41, 3) := by decide +kernel
theorem dX1_totalOf_12 : decode cX1_totalOf 12 = .ok (.aload_n 0, 1) := by decide +kernel
theorem dX1_totalOf_13 : decode cX1_totalOf 13 = .ok (.iload_n 3, 1) := by decide +kernel
theorem dX1_totalOf_14 : decode cX1_totalOf 14 = .ok (.invokevirtual 72, 3) := by decide +kernel
theorem dX1_totalOf_17 : decode cX1_totalOf 17 = .ok (.astore 4, 2) := by decide +kernel
theorem dX1_totalOf_19 : decode cX1_totalOf 19 = .ok (.aload 4, 2) := by decide +kernel
theorem dX1_totalOf_21 : decode cX1_totalOf 21 = .ok (.ifnull 23, 3) := by decide +kernel
theorem dX1_totalOf_24 : decode cX1_totalOf 24 = .ok (.aload 4, 2) := by decide +kernel
theorem dX1_totalOf_26 : decode cX1_totalOf 26 = .ok (.getfield 117, 3) := by decide +kernel
theorem dX1_totalOf_29 : decode cX1_totalOf 29 = .ok (.ifnull 15, 3) := by decide +kernel
theorem dX1_totalOf_32 : decode cX1_totalOf 32 = .ok (.iload_n 2, 1) := by decide +kernel
theorem dX1_totalOf_33 : decode cX1_totalOf 33 = .ok (.aload 4, 2) := by decide +kernel
theorem dX1_totalOf_35 : decode cX1_totalOf 35 = .ok (.getfield 117, 3) := by decide +kernel
theorem dX1_totalOf_38 : decode cX1_totalOf 38 = .ok (.iload_n 1, 1) := by decide +kernel
theorem dX1_totalOf_39 : decode cX1_totalOf 39 = .ok (.invokevirtual 121, 3) := by decide +kernel
theorem dX1_totalOf_42 : decode cX1_totalOf 42 = .ok (.iadd, 1) := by decide +kernel
theorem dX1_totalOf_43 : decode cX1_totalOf 43 = .ok (.istore_n 2, 1) := by decide +kernel
theorem dX1_totalOf_44 : decode cX1_totalOf 44 = .ok (.iinc 3 1, 3) := by decide +kernel
theorem dX1_totalOf_47 : decode cX1_totalOf 47 = .ok (.goto (-43), 3) := by decide +kernel
theorem dX1_totalOf_50 : decode cX1_totalOf 50 = .ok (.iload_n 2, 1) := by decide +kernel
theorem dX1_totalOf_51 : decode cX1_totalOf 51 = .ok (.ireturn, 1) := by decide +kernel
theorem dX1_passTick_0 : decode cX1_passTick 0 = .ok (.aload_n 0, 1) := by decide +kernel
theorem dX1_passTick_1 : decode cX1_passTick 1 = .ok (.invokevirtual 125, 3) := by decide +kernel
theorem dX1_passTick_4 : decode cX1_passTick 4 = .ok (.iconst 1, 1) := by decide +kernel
theorem dX1_passTick_5 : decode cX1_passTick 5 = .ok (.if_icmp .ne 7, 3) := by decide +kernel
theorem dX1_passTick_8 : decode cX1_passTick 8 = .ok (.iconst 1, 1) := by decide +kernel
theorem dX1_passTick_9 : decode cX1_passTick 9 = .ok (.goto 4, 3) := by decide +kernel
theorem dX1_passTick_12 : decode cX1_passTick 12 = .ok (.iconst 0, 1) := by decide +kernel
theorem dX1_passTick_13 : decode cX1_passTick 13 = .ok (.istore_n 1, 1) := by decide +kernel
theorem dX1_passTick_14 : decode cX1_passTick 14 = .ok (.aload_n 0, 1) := by decide +kernel
theorem dX1_passTick_15 : decode cX1_passTick 15 = .ok (.dup, 1) := by decide +kernel
theorem dX1_passTick_16 : decode cX1_passTick 16 = .ok (.getfield 57, 3) := by decide +kernel
theorem dX1_passTick_19 : decode cX1_passTick 19 = .ok (.iconst 1, 1) := by decide +kernel
theorem dX1_passTick_20 : decode cX1_passTick 20 = .ok (.iadd, 1) := by decide +kernel
theorem dX1_passTick_21 : decode cX1_passTick 21 = .ok (.putfield 57, 3) := by decide +kernel
theorem dX1_passTick_24 : decode cX1_passTick 24 = .ok (.iload_n 1, 1) := by decide +kernel
theorem dX1_passTick_25 : decode cX1_passTick 25 = .ok (.ifCond .eq 7, 3) := by decide +kernel
theorem dX1_passTick_28 : decode cX1_passTick 28 = .ok (.aload_n 0, 1) := by decide +kernel
theorem dX1_passTick_29 : decode cX1_passTick 29 = .ok (.invokevirtual 129, 3) := by decide +kernel
theorem dX1_passTick_32 : decode cX1_passTick 32 = .ok (.aload_n 0, 1) := by decide +kernel
theorem dX1_passTick_33 : decode cX1_passTick 33 = .ok (.iconst 1, 1) := by decide +kernel
theorem dX1_passTick_34 : decode cX1_passTick 34 = .ok (.invokevirtual 132, 3) := by decide +kernel
theorem dX1_passTick_37 : decode cX1_passTick 37 = .ok (.aload_n 0, 1) := by decide +kernel
theorem dX1_passTick_38 : decode cX1_passTick 38 = .ok (.getfield 51, 3) := by decide +kernel
theorem dX1_passTick_41 : decode cX1_passTick 41 = .ok (.iconst 1, 1) := by decide +kernel
theorem dX1_passTick_42 : decode cX1_passTick 42 = .ok (.isub, 1) := by decide +kernel
theorem dX1_passTick_43 : decode cX1_passTick 43 = .ok (.istore_n 2, 1) := by decide +kernel
theorem dX1_passTick_44 : decode cX1_passTick 44 = .ok (.iload_n 2, 1) := by decide +kernel
theorem dX1_passTick_45 : decode cX1_passTick 45 = .ok (.ifCond .lt 14, 3) := by decide +kernel
theorem dX1_passTick_48 : decode cX1_passTick 48 = .ok (.aload_n 0, 1) := by decide +kernel
theorem dX1_passTick_49 : decode cX1_passTick 49 = .ok (.iload_n 2, 1) := by decide +kernel
theorem dX1_passTick_50 : decode cX1_passTick 50 = .ok (.invokevirtual 135, 3) := by decide +kernel
theorem dX1_passTick_53 : decode cX1_passTick 53 = .ok (.iinc 2 (-1), 3) := by decide +kernel
theorem dX1_passTick_56 : decode cX1_passTick 56 = .ok (.goto (-12), 3) := by decide +kernel
theorem dX1_passTick_59 : decode cX1_passTick 59 = .ok (.aload_n 0, 1) := by decide +kernel
theorem dX1_passTick_60 : decode cX1_passTick 60 = .ok (.invokevirtual 138, 3) := by decide +kernel
theorem dX1_passTick_63 : decode cX1_passTick 63 = .ok (.aload_n 0, 1) := by decide +kernel
theorem dX1_passTick_64 : decode cX1_passTick 64 = .ok (.invokevirtual 141, 3) := by decide +kernel
theorem dX1_passTick_67 : decode cX1_passTick 67 = .ok (.return_, 1) := by decide +kernel
theorem dX1_passQuietTicks_0 : decode cX1_passQuietTicks 0 = .ok (.aload_n 0, 1) := by decide +kernel
theorem dX1_passQuietTicks_1 : decode cX1_passQuietTicks 1 = .ok (.dup, 1) := by decide +kernel
theorem dX1_passQuietTicks_2 : decode cX1_passQuietTicks 2 = .ok (.getfield 57, 3) := by decide +kernel
theorem dX1_passQuietTicks_5 : decode cX1_passQuietTicks 5 = .ok (.iload_n 1, 1) := by decide +kernel
theorem dX1_passQuietTicks_6 : decode cX1_passQuietTicks 6 = .ok (.iadd, 1) := by decide +kernel
theorem dX1_passQuietTicks_7 : decode cX1_passQuietTicks 7 = .ok (.putfield 57, 3) := by decide +kernel
theorem dX1_passQuietTicks_10 : decode cX1_passQuietTicks 10 = .ok (.aload_n 0, 1) := by decide +kernel
theorem dX1_passQuietTicks_11 : decode cX1_passQuietTicks 11 = .ok (.iload_n 1, 1) := by decide +kernel
theorem dX1_passQuietTicks_12 : decode cX1_passQuietTicks 12 = .ok (.invokevirtual 132, 3) := by decide +kernel
theorem dX1_passQuietTicks_15 : decode cX1_passQuietTicks 15 = .ok (.return_, 1) := by decide +kernel
theorem dX1_quietTicks_0 : decode cX1_quietTicks 0 = .ok (.aload_n 0, 1) := by decide +kernel
theorem dX1_quietTicks_1 : decode cX1_quietTicks 1 = .ok (.invokevirtual 144, 3) := by decide +kernel
theorem dX1_quietTicks_4 : decode cX1_quietTicks 4 = .ok (.ifCond .ne 10, 3) := by decide +kernel
theorem dX1_quietTicks_7 : decode cX1_quietTicks 7 = .ok (.aload_n 0, 1) := by decide +kernel
theorem dX1_quietTicks_8 : decode cX1_quietTicks 8 = .ok (.invokevirtual 148, 3) := by decide +kernel
theorem dX1_quietTicks_11 : decode cX1_quietTicks 11 = .ok (.ifCond .eq 5, 3) := by decide +kernel
theorem dX1_quietTicks_14 : decode cX1_quietTicks 14 = .ok (.iconst 0, 1) := by decide +kernel
theorem dX1_quietTicks_15 : decode cX1_quietTicks 15 = .ok (.ireturn, 1) := by decide +kernel
theorem dX1_quietTicks_16 : decode cX1_quietTicks 16 = .ok (.aload_n 0, 1) := by decide +kernel
theorem dX1_quietTicks_17 : decode cX1_quietTicks 17 = .ok (.invokevirtual 125, 3) := by decide +kernel
theorem dX1_quietTicks_20 : decode cX1_quietTicks 20 = .ok (.iconst 1, 1) := by decide +kernel
theorem dX1_quietTicks_21 : decode cX1_quietTicks 21 = .ok (.isub, 1) := by decide +kernel
theorem dX1_quietTicks_22 : decode cX1_quietTicks 22 = .ok (.istore_n 1, 1) := by decide +kernel
theorem dX1_quietTicks_23 : decode cX1_quietTicks 23 = .ok (.iconst 0, 1) := by decide +kernel
theorem dX1_quietTicks_24 : decode cX1_quietTicks 24 = .ok (.istore_n 2, 1) := by decide +kernel
theorem dX1_quietTicks_25 : decode cX1_quietTicks 25 = .ok (.iload_n 2, 1) := by decide +kernel
theorem dX1_quietTicks_26 : decode cX1_quietTicks 26 = .ok (.aload_n 0, 1) := by decide +kernel
theorem dX1_quietTicks_27 : decode cX1_quietTicks 27 = .ok (.getfield 51, 3) := by decide +kernel
theorem dX1_quietTicks_30 : decode cX1_quietTicks 30 = .ok (.if_icmp .ge 19, 3) := by decide +kernel
theorem dX1_quietTicks_33 : decode cX1_quietTicks 33 = .ok (.iload_n 1, 1) := by decide +kernel
theorem dX1_quietTicks_34 : decode cX1_quietTicks 34 = .ok (.aload_n 0, 1) := by decide +kernel
theorem dX1_quietTicks_35 : decode cX1_quietTicks 35 = .ok (.iload_n 2, 1) := by decide +kernel
theorem dX1_quietTicks_36 : decode cX1_quietTicks 36 = .ok (.invokevirtual 151, 3) := by decide +kernel
theorem dX1_quietTicks_39 : decode cX1_quietTicks 39 = .ok (.invokestatic 154, 3) := by decide +kernel
theorem dX1_quietTicks_42 : decode cX1_quietTicks 42 = .ok (.istore_n 1, 1) := by decide +kernel
theorem dX1_quietTicks_43 : decode cX1_quietTicks 43 = .ok (.iinc 2 1, 3) := by decide +kernel
theorem dX1_quietTicks_46 : decode cX1_quietTicks 46 = .ok (.goto (-21), 3) := by decide +kernel
theorem dX1_quietTicks_49 : decode cX1_quietTicks 49 = .ok (.iload_n 1, 1) := by decide +kernel
theorem dX1_quietTicks_50 : decode cX1_quietTicks 50 = .ok (.iconst 0, 1) := by decide +kernel
theorem dX1_quietTicks_51 : decode cX1_quietTicks 51 = .ok (.invokestatic 160, 3) := by decide +kernel
theorem dX1_quietTicks_54 : decode cX1_quietTicks 54 = .ok (.ireturn, 1) := by decide +kernel
theorem dX1_quietTicksAt_0 : decode cX1_quietTicksAt 0 = .ok (.aload_n 0, 1) := by decide +kernel
theorem dX1_quietTicksAt_1 : decode cX1_quietTicksAt 1 = .ok (.iload_n 1, 1) := by decide +kernel
theorem dX1_quietTicksAt_2 : decode cX1_quietTicksAt 2 = .ok (.invokevirtual 163, 3) := by decide +kernel
theorem dX1_quietTicksAt_5 : decode cX1_quietTicksAt 5 = .ok (.astore_n 2, 1) := by decide +kernel
theorem dX1_quietTicksAt_6 : decode cX1_quietTicksAt 6 = .ok (.aload_n 2, 1) := by decide +kernel
theorem dX1_quietTicksAt_7 : decode cX1_quietTicksAt 7 = .ok (.ifnonnull 7, 3) := by decide +kernel
theorem dX1_quietTicksAt_10 : decode cX1_quietTicksAt 10 = .ok (.sipush 300, 3) := by decide +kernel
theorem dX1_quietTicksAt_13 : decode cX1_quietTicksAt 13 = .ok (.ireturn, 1) := by decide +kernel
theorem dX1_quietTicksAt_14 : decode cX1_quietTicksAt 14 = .ok (.aload_n 2, 1) := by decide +kernel
theorem dX1_quietTicksAt_15 : decode cX1_quietTicksAt 15 = .ok (.getfield 166, 3) := by decide +kernel
theorem dX1_quietTicksAt_18 : decode cX1_quietTicksAt 18 = .ok (.ifCond .le 10, 3) := by decide +kernel
theorem dX1_quietTicksAt_21 : decode cX1_quietTicksAt 21 = .ok (.aload_n 2, 1) := by decide +kernel
theorem dX1_quietTicksAt_22 : decode cX1_quietTicksAt 22 = .ok (.getfield 166, 3) := by decide +kernel
theorem dX1_quietTicksAt_25 : decode cX1_quietTicksAt 25 = .ok (.iconst 1, 1) := by decide +kernel
theorem dX1_quietTicksAt_26 : decode cX1_quietTicksAt 26 = .ok (.isub, 1) := by decide +kernel
theorem dX1_quietTicksAt_27 : decode cX1_quietTicksAt 27 = .ok (.ireturn, 1) := by decide +kernel
theorem dX1_quietTicksAt_28 : decode cX1_quietTicksAt 28 = .ok (.aload_n 0, 1) := by decide +kernel
theorem dX1_quietTicksAt_29 : decode cX1_quietTicksAt 29 = .ok (.aload_n 2, 1) := by decide +kernel
theorem dX1_quietTicksAt_30 : decode cX1_quietTicksAt 30 = .ok (.invokevirtual 169, 3) := by decide +kernel
theorem dX1_quietTicksAt_33 : decode cX1_quietTicksAt 33 = .ok (.ifCond .eq 9, 3) := by decide +kernel
theorem dX1_quietTicksAt_36 : decode cX1_quietTicksAt 36 = .ok (.sipush 300, 3) := by decide +kernel
theorem dX1_quietTicksAt_39 : decode cX1_quietTicksAt 39 = .ok (.goto 4, 3) := by decide +kernel
theorem dX1_quietTicksAt_42 : decode cX1_quietTicksAt 42 = .ok (.iconst 0, 1) := by decide +kernel
theorem dX1_quietTicksAt_43 : decode cX1_quietTicksAt 43 = .ok (.ireturn, 1) := by decide +kernel
theorem dX1_fillShelves_0 : decode cX1_fillShelves 0 = .ok (.iconst 0, 1) := by decide +kernel
theorem dX1_fillShelves_1 : decode cX1_fillShelves 1 = .ok (.istore_n 1, 1) := by decide +kernel
theorem dX1_fillShelves_2 : decode cX1_fillShelves 2 = .ok (.iload_n 1, 1) := by decide +kernel
theorem dX1_fillShelves_3 : decode cX1_fillShelves 3 = .ok (.aload_n 0, 1) := by decide +kernel
theorem dX1_fillShelves_4 : decode cX1_fillShelves 4 = .ok (.getfield 51, 3) := by decide +kernel
theorem dX1_fillShelves_7 : decode cX1_fillShelves 7 = .ok (.if_icmp .ge 68, 3) := by decide +kernel
theorem dX1_fillShelves_10 : decode cX1_fillShelves 10 = .ok (.aload_n 0, 1) := by decide +kernel
theorem dX1_fillShelves_11 : decode cX1_fillShelves 11 = .ok (.iload_n 1, 1) := by decide +kernel
theorem dX1_fillShelves_12 : decode cX1_fillShelves 12 = .ok (.invokevirtual 64, 3) := by decide +kernel
theorem dX1_fillShelves_15 : decode cX1_fillShelves 15 = .ok (.astore_n 2, 1) := by decide +kernel
theorem dX1_fillShelves_16 : decode cX1_fillShelves 16 = .ok (.aload_n 2, 1) := by decide +kernel
theorem dX1_fillShelves_17 : decode cX1_fillShelves 17 = .ok (.ifnull 52, 3) := by decide +kernel
theorem dX1_fillShelves_20 : decode cX1_fillShelves 20 = .ok (.aload_n 2, 1) := by decide +kernel
theorem dX1_fillShelves_21 : decode cX1_fillShelves 21 = .ok (.getfield 173, 3) := by decide +kernel
theorem dX1_fillShelves_24 : decode cX1_fillShelves 24 = .ok (.iconst (-1), 1) := by decide +kernel
theorem dX1_fillShelves_25 : decode cX1_fillShelves 25 = .ok (.if_icmp .eq 44, 3) := by decide +kernel
theorem dX1_fillShelves_28 : decode cX1_fillShelves 28 = .ok (.aload_n 2, 1) := by decide +kernel
theorem dX1_fillShelves_29 : decode cX1_fillShelves 29 = .ok (.getfield 176, 3) := by decide +kernel
theorem dX1_fillShelves_32 : decode cX1_fillShelves 32 = .ok (.aload_n 2, 1) := by decide +kernel
theorem dX1_fillShelves_33 : decode cX1_fillShelves 33 = .ok (.getfield 179, 3) := by decide +kernel
theorem dX1_fillShelves_36 : decode cX1_fillShelves 36 = .ok (.isub, 1) := by decide +kernel
theorem dX1_fillShelves_37 : decode cX1_fillShelves 37 = .ok (.aload_n 0, 1) := by decide +kernel
theorem dX1_fillShelves_38 : decode cX1_fillShelves 38 = .ok (.aload_n 2, 1) := by decide +kernel
theorem dX1_fillShelves_39 : decode cX1_fillShelves 39 = .ok (.getfield 173, 3) := by decide +kernel
theorem dX1_fillShelves_42 : decode cX1_fillShelves 42 = .ok (.invokevirtual 60, 3) := by decide +kernel
theorem dX1_fillShelves_45 : decode cX1_fillShelves 45 = .ok (.invokestatic 154, 3) := by decide +kernel
theorem dX1_fillShelves_48 : decode cX1_fillShelves 48 = .ok (.istore_n 3, 1) := by decide +kernel
theorem dX1_fillShelves_49 : decode cX1_fillShelves 49 = .ok (.aload_n 2, 1) := by decide +kernel
theorem dX1_fillShelves_50 : decode cX1_fillShelves 50 = .ok (.dup, 1) := by decide +kernel
theorem dX1_fillShelves_51 : decode cX1_fillShelves 51 = .ok (.getfield 179, 3) := by decide +kernel
theorem dX1_fillShelves_54 : decode cX1_fillShelves 54 = .ok (.iload_n 3, 1) := by decide +kernel
theorem dX1_fillShelves_55 : decode cX1_fillShelves 55 = .ok (.iadd, 1) := by decide +kernel
theorem dX1_fillShelves_56 : decode cX1_fillShelves 56 = .ok (.putfield 179, 3) := by decide +kernel
theorem dX1_fillShelves_59 : decode cX1_fillShelves 59 = .ok (.aload_n 0, 1) := by decide +kernel
theorem dX1_fillShelves_60 : decode cX1_fillShelves 60 = .ok (.aload_n 2, 1) := by decide +kernel
theorem dX1_fillShelves_61 : decode cX1_fillShelves 61 = .ok (.getfield 173, 3) := by decide +kernel
theorem dX1_fillShelves_64 : decode cX1_fillShelves 64 = .ok (.iload_n 3, 1) := by decide +kernel
theorem dX1_fillShelves_65 : decode cX1_fillShelves 65 = .ok (.ineg, 1) := by decide +kernel
theorem dX1_fillShelves_66 : decode cX1_fillShelves 66 = .ok (.invokevirtual 182, 3) := by decide +kernel
theorem dX1_fillShelves_69 : decode cX1_fillShelves 69 = .ok (.iinc 1 1, 3) := by decide +kernel
theorem dX1_fillShelves_72 : decode cX1_fillShelves 72 = .ok (.goto (-70), 3) := by decide +kernel
theorem dX1_fillShelves_75 : decode cX1_fillShelves 75 = .ok (.return_, 1) := by decide +kernel
theorem dX1_countDown_0 : decode cX1_countDown 0 = .ok (.iconst 0, 1) := by decide +kernel
theorem dX1_countDown_1 : decode cX1_countDown 1 = .ok (.istore_n 2, 1) := by decide +kernel
theorem dX1_countDown_2 : decode cX1_countDown 2 = .ok (.iload_n 2, 1) := by decide +kernel
theorem dX1_countDown_3 : decode cX1_countDown 3 = .ok (.aload_n 0, 1) := by decide +kernel
theorem dX1_countDown_4 : decode cX1_countDown 4 = .ok (.getfield 51, 3) := by decide +kernel
theorem dX1_countDown_7 : decode cX1_countDown 7 = .ok (.if_icmp .ge 33, 3) := by decide +kernel
theorem dX1_countDown_10 : decode cX1_countDown 10 = .ok (.aload_n 0, 1) := by decide +kernel
theorem dX1_countDown_11 : decode cX1_countDown 11 = .ok (.iload_n 2, 1) := by decide +kernel
theorem dX1_countDown_12 : decode cX1_countDown 12 = .ok (.invokevirtual 163, 3) := by decide +kernel
theorem dX1_countDown_15 : decode cX1_countDown 15 = .ok (.astore_n 3, 1) := by decide +kernel
theorem dX1_countDown_16 : decode cX1_countDown 16 = .ok (.aload_n 3, 1) := by decide +kernel
theorem dX1_countDown_17 : decode cX1_countDown 17 = .ok (.ifnull 17, 3) := by decide +kernel
theorem dX1_countDown_20 : decode cX1_countDown 20 = .ok (.aload_n 3, 1) := by decide +kernel
theorem dX1_countDown_21 : decode cX1_countDown 21 = .ok (.aload_n 3, 1) := by decide +kernel
theorem dX1_countDown_22 : decode cX1_countDown 22 = .ok (.getfield 166, 3) := by decide +kernel
theorem dX1_countDown_25 : decode cX1_countDown 25 = .ok (.iload_n 1, 1) := by decide +kernel
theorem dX1_countDown_26 : decode cX1_countDown 26 = .ok (.isub, 1) := by decide +kernel
theorem dX1_countDown_27 : decode cX1_countDown 27 = .ok (.iconst 0, 1) := by decide +kernel
theorem dX1_countDown_28 : decode cX1_countDown 28 = .ok (.invokestatic 160, 3) := by decide +kernel
theorem dX1_countDown_31 : decode cX1_countDown 31 = .ok (.putfield 166, 3) := by decide +kernel
theorem dX1_countDown_34 : decode cX1_countDown 34 = .ok (.iinc 2 1, 3) := by decide +kernel
theorem dX1_countDown_37 : decode cX1_countDown 37 = .ok (.goto (-35), 3) := by decide +kernel
theorem dX1_countDown_40 : decode cX1_countDown 40 = .ok (.return_, 1) := by decide +kernel
theorem dX1_standingAt_0 : decode cX1_standingAt 0 = .ok (.aload_n 0, 1) := by decide +kernel
theorem dX1_standingAt_1 : decode cX1_standingAt 1 = .ok (.iload_n 1, 1) := by decide +kernel
theorem dX1_standingAt_2 : decode cX1_standingAt 2 = .ok (.invokevirtual 64, 3) := by decide +kernel
theorem dX1_standingAt_5 : decode cX1_standingAt 5 = .ok (.astore_n 2, 1) := by decide +kernel
theorem dX1_standingAt_6 : decode cX1_standingAt 6 = .ok (.aload_n 2, 1) := by decide +kernel
theorem dX1_standingAt_7 : decode cX1_standingAt 7 = .ok (.ifnonnull 7, 3) := by decide +kernel
theorem dX1_standingAt_10 : decode cX1_standingAt 10 = .ok (.aconst_null, 1) := by decide +kernel
theorem dX1_standingAt_11 : decode cX1_standingAt 11 = .ok (.goto 11, 3) := by decide +kernel
theorem dX1_standingAt_14 : decode cX1_standingAt 14 = .ok (.aload_n 0, 1) := by decide +kernel
theorem dX1_standingAt_15 : decode cX1_standingAt 15 = .ok (.aload_n 2, 1) := by decide +kernel
theorem dX1_standingAt_16 : decode cX1_standingAt 16 = .ok (.getfield 186, 3) := by decide +kernel
theorem dX1_standingAt_19 : decode cX1_standingAt 19 = .ok (.invokevirtual 72, 3) := by decide +kernel
theorem dX1_standingAt_22 : decode cX1_standingAt 22 = .ok (.areturn, 1) := by decide +kernel
theorem dX1_isFree_0 : decode cX1_isFree 0 = .ok (.aload_n 0, 1) := by decide +kernel
theorem dX1_isFree_1 : decode cX1_isFree 1 = .ok (.iload_n 1, 1) := by decide +kernel
theorem dX1_isFree_2 : decode cX1_isFree 2 = .ok (.invokevirtual 64, 3) := by decide +kernel
theorem dX1_isFree_5 : decode cX1_isFree 5 = .ok (.astore_n 2, 1) := by decide +kernel
theorem dX1_isFree_6 : decode cX1_isFree 6 = .ok (.aload_n 2, 1) := by decide +kernel
theorem dX1_isFree_7 : decode cX1_isFree 7 = .ok (.ifnull 15, 3) := by decide +kernel
theorem dX1_isFree_10 : decode cX1_isFree 10 = .ok (.aload_n 2, 1) := by decide +kernel
theorem dX1_isFree_11 : decode cX1_isFree 11 = .ok (.getfield 186, 3) := by decide +kernel
theorem dX1_isFree_14 : decode cX1_isFree 14 = .ok (.iconst (-1), 1) := by decide +kernel
theorem dX1_isFree_15 : decode cX1_isFree 15 = .ok (.if_icmp .ne 7, 3) := by decide +kernel
theorem dX1_isFree_18 : decode cX1_isFree 18 = .ok (.iconst 1, 1) := by decide +kernel
theorem dX1_isFree_19 : decode cX1_isFree 19 = .ok (.goto 4, 3) := by decide +kernel
theorem dX1_isFree_22 : decode cX1_isFree 22 = .ok (.iconst 0, 1) := by decide +kernel
theorem dX1_isFree_23 : decode cX1_isFree 23 = .ok (.ireturn, 1) := by decide +kernel
theorem dX1_goesAlong_0 : decode cX1_goesAlong 0 = .ok (.aload_n 1, 1) := by decide +kernel
theorem dX1_goesAlong_1 : decode cX1_goesAlong 1 = .ok (.getfield 189, 3) := by decide +kernel
theorem dX1_goesAlong_4 : decode cX1_goesAlong 4 = .ok (.ifCond .ne 20, 3) := by decide +kernel
theorem dX1_goesAlong_7 : decode cX1_goesAlong 7 = .ok (.aload_n 1, 1) := by decide +kernel
theorem dX1_goesAlong_8 : decode cX1_goesAlong 8 = .ok (.getfield 193, 3) := by decide +kernel
theorem dX1_goesAlong_11 : decode cX1_goesAlong 11 = .ok (.iconst 1, 1) := by decide +kernel
theorem dX1_goesAlong_12 : decode cX1_goesAlong 12 = .ok (.iadd, 1) := by decide +kernel
theorem dX1_goesAlong_13 : decode cX1_goesAlong 13 = .ok (.aload_n 0, 1) := by decide +kernel
theorem dX1_goesAlong_14 : decode cX1_goesAlong 14 = .ok (.getfield 51, 3) := by decide +kernel
theorem dX1_goesAlong_17 : decode cX1_goesAlong 17 = .ok (.if_icmp .ge 7, 3) := by decide +kernel
theorem dX1_goesAlong_20 : decode cX1_goesAlong 20 = .ok (.iconst 1, 1) := by decide +kernel
theorem dX1_goesAlong_21 : decode cX1_goesAlong 21 = .ok (.goto 4, 3) := by decide +kernel
theorem dX1_goesAlong_24 : decode cX1_goesAlong 24 = .ok (.iconst 0, 1) := by decide +kernel
theorem dX1_goesAlong_25 : decode cX1_goesAlong 25 = .ok (.ireturn, 1) := by decide +kernel
theorem dX1_isHeldUp_0 : decode cX1_isHeldUp 0 = .ok (.aload_n 0, 1) := by decide +kernel
theorem dX1_isHeldUp_1 : decode cX1_isHeldUp 1 = .ok (.aload_n 1, 1) := by decide +kernel
theorem dX1_isHeldUp_2 : decode cX1_isHeldUp 2 = .ok (.invokevirtual 196, 3) := by decide +kernel
theorem dX1_isHeldUp_5 : decode cX1_isHeldUp 5 = .ok (.ifCond .eq 20, 3) := by decide +kernel
theorem dX1_isHeldUp_8 : decode cX1_isHeldUp 8 = .ok (.aload_n 0, 1) := by decide +kernel
theorem dX1_isHeldUp_9 : decode cX1_isHeldUp 9 = .ok (.aload_n 1, 1) := by decide +kernel
theorem dX1_isHeldUp_10 : decode cX1_isHeldUp 10 = .ok (.getfield 193, 3) := by decide +kernel
theorem dX1_isHeldUp_13 : decode cX1_isHeldUp 13 = .ok (.iconst 1, 1) := by decide +kernel
theorem dX1_isHeldUp_14 : decode cX1_isHeldUp 14 = .ok (.iadd, 1) := by decide +kernel
theorem dX1_isHeldUp_15 : decode cX1_isHeldUp 15 = .ok (.invokevirtual 199, 3) := by decide +kernel
theorem dX1_isHeldUp_18 : decode cX1_isHeldUp 18 = .ok (.ifCond .ne 7, 3) := by decide +kernel
theorem dX1_isHeldUp_21 : decode cX1_isHeldUp 21 = .ok (.iconst 1, 1) := by decide +kernel
theorem dX1_isHeldUp_22 : decode cX1_isHeldUp 22 = .ok (.goto 4, 3) := by decide +kernel
theorem dX1_isHeldUp_25 : decode cX1_isHeldUp 25 = .ok (.iconst 0, 1) := by decide +kernel
theorem dX1_isHeldUp_26 : decode cX1_isHeldUp 26 = .ok (.ireturn, 1) := by decide +kernel
theorem dX1_moveOn_0 : decode cX1_moveOn 0 = .ok (.aload_n 0, 1) := by decide +kernel
theorem dX1_moveOn_1 : decode cX1_moveOn 1 = .ok (.iload_n 1, 1) := by decide +kernel
theorem dX1_moveOn_2 : decode cX1_moveOn 2 = .ok (.invokevirtual 64, 3) := by decide +kernel
theorem dX1_moveOn_5 : decode cX1_moveOn 5 = .ok (.astore_n 2, 1) := by decide +kernel
theorem dX1_moveOn_6 : decode cX1_moveOn 6 = .ok (.aload_n 0, 1) := by decide +kernel
theorem dX1_moveOn_7 : decode cX1_moveOn 7 = .ok (.iload_n 1, 1) := by decide +kernel
theorem dX1_moveOn_8 : decode cX1_moveOn 8 = .ok (.invokevirtual 163, 3) := by decide +kernel
theorem dX1_moveOn_11 : decode cX1_moveOn 11 = .ok (.astore_n 3, 1) := by decide +kernel
theorem dX1_moveOn_12 : decode cX1_moveOn 12 = .ok (.aload_n 2, 1) := by decide +kernel
theorem dX1_moveOn_13 : decode cX1_moveOn 13 = .ok (.ifnull 22, 3) := by decide +kernel
theorem dX1_moveOn_16 : decode cX1_moveOn 16 = .ok (.aload_n 3, 1) := by decide +kernel
theorem dX1_moveOn_17 : decode cX1_moveOn 17 = .ok (.ifnull 18, 3) := by decide +kernel
theorem dX1_moveOn_20 : decode cX1_moveOn 20 = .ok (.aload_n 3, 1) := by decide +kernel
theorem dX1_moveOn_21 : decode cX1_moveOn 21 = .ok (.getfield 166, 3) := by decide +kernel
theorem dX1_moveOn_24 : decode cX1_moveOn 24 = .ok (.ifCond .gt 11, 3) := by decide +kernel
theorem dX1_moveOn_27 : decode cX1_moveOn 27 = .ok (.aload_n 0, 1) := by decide +kernel
theorem dX1_moveOn_28 : decode cX1_moveOn 28 = .ok (.aload_n 3, 1) := by decide +kernel
theorem dX1_moveOn_29 : decode cX1_moveOn 29 = .ok (.invokevirtual 169, 3) := by decide +kernel
theorem dX1_moveOn_32 : decode cX1_moveOn 32 = .ok (.ifCond .eq 4, 3) := by decide +kernel
theorem dX1_moveOn_35 : decode cX1_moveOn 35 = .ok (.return_, 1) := by decide +kernel
theorem dX1_moveOn_36 : decode cX1_moveOn 36 = .ok (.aload_n 2, 1) := by decide +kernel
theorem dX1_moveOn_37 : decode cX1_moveOn 37 = .ok (.iconst (-1), 1) := by decide +kernel
theorem dX1_moveOn_38 : decode cX1_moveOn 38 = .ok (.putfield 186, 3) := by decide +kernel
theorem dX1_moveOn_41 : decode cX1_moveOn 41 = .ok (.aload_n 0, 1) := by decide +kernel
theorem dX1_moveOn_42 : decode cX1_moveOn 42 = .ok (.aload_n 3, 1) := by decide +kernel
theorem dX1_moveOn_43 : decode cX1_moveOn 43 = .ok (.invokevirtual 196, 3) := by decide +kernel
theorem dX1_moveOn_46 : decode cX1_moveOn 46 = .ok (.ifCond .eq 15, 3) := by decide +kernel
theorem dX1_moveOn_49 : decode cX1_moveOn 49 = .ok (.aload_n 0, 1) := by decide +kernel
theorem dX1_moveOn_50 : decode cX1_moveOn 50 = .ok (.aload_n 3, 1) := by decide +kernel
theorem dX1_moveOn_51 : decode cX1_moveOn 51 = .ok (.iload_n 1, 1) := by decide +kernel
theorem dX1_moveOn_52 : decode cX1_moveOn 52 = .ok (.iconst 1, 1) := by decide +kernel
theorem dX1_moveOn_53 : decode cX1_moveOn 53 = .ok (.iadd, 1) := by decide +kernel
theorem dX1_moveOn_54 : decode cX1_moveOn 54 = .ok (.iconst 0, 1) := by decide +kernel
theorem dX1_moveOn_55 : decode cX1_moveOn 55 = .ok (.invokevirtual 203, 3) := by decide +kernel
theorem dX1_moveOn_58 : decode cX1_moveOn 58 = .ok (.goto 23, 3) := by decide +kernel
theorem dX1_moveOn_61 : decode cX1_moveOn 61 = .ok (.aload_n 3, 1) := by decide +kernel
theorem dX1_moveOn_62 : decode cX1_moveOn 62 = .ok (.getfield 207, 3) := by decide +kernel
theorem dX1_moveOn_65 : decode cX1_moveOn 65 = .ok (.ifCond .ne 11, 3) := by decide +kernel
theorem dX1_moveOn_68 : decode cX1_moveOn 68 = .ok (.aload_n 0, 1) := by decide +kernel
theorem dX1_moveOn_69 : decode cX1_moveOn 69 = .ok (.aload_n 3, 1) := by decide +kernel
theorem dX1_moveOn_70 : decode cX1_moveOn 70 = .ok (.invokevirtual 210, 3) := by decide +kernel
theorem dX1_moveOn_73 : decode cX1_moveOn 73 = .ok (.goto 8, 3) := by decide +kernel
theorem dX1_moveOn_76 : decode cX1_moveOn 76 = .ok (.aload_n 0, 1) := by decide +kernel
theorem dX1_moveOn_77 : decode cX1_moveOn 77 = .ok (.aload_n 3, 1) := by decide +kernel
theorem dX1_moveOn_78 : decode cX1_moveOn 78 = .ok (.invokevirtual 213, 3) := by decide +kernel
theorem dX1_moveOn_81 : decode cX1_moveOn 81 = .ok (.return_, 1) := by decide +kernel
theorem dX1_enter_0 : decode cX1_enter 0 = .ok (.aload_n 0, 1) := by decide +kernel
theorem dX1_enter_1 : decode cX1_enter 1 = .ok (.iload_n 2, 1) := by decide +kernel
theorem dX1_enter_2 : decode cX1_enter 2 = .ok (.invokevirtual 64, 3) := by decide +kernel
theorem dX1_enter_5 : decode cX1_enter 5 = .ok (.astore 4, 2) := by decide +kernel
theorem dX1_enter_7 : decode cX1_enter 7 = .ok (.aload 4, 2) := by decide +kernel
theorem dX1_enter_9 : decode cX1_enter 9 = .ok (.ifnonnull 4, 3) := by decide +kernel
theorem dX1_enter_12 : decode cX1_enter 12 = .ok (.return_, 1) := by decide +kernel
theorem dX1_enter_13 : decode cX1_enter 13 = .ok (.aload_n 1, 1) := by decide +kernel
theorem dX1_enter_14 : decode cX1_enter 14 = .ok (.getfield 216, 3) := by decide +kernel
theorem dX1_enter_17 : decode cX1_enter 17 = .ok (.ifCond .ne 11, 3) := by decide +kernel
theorem dX1_enter_20 : decode cX1_enter 20 = .ok (.aload_n 1, 1) := by decide +kernel
theorem dX1_enter_21 : decode cX1_enter 21 = .ok (.aload_n 0, 1) := by decide +kernel
theorem dX1_enter_22 : decode cX1_enter 22 = .ok (.getfield 57, 3) := by decide +kernel
theorem dX1_enter_25 : decode cX1_enter 25 = .ok (.putfield 114, 3) := by decide +kernel
theorem dX1_enter_28 : decode cX1_enter 28 = .ok (.aload 4, 2) := by decide +kernel
theorem dX1_enter_30 : decode cX1_enter 30 = .ok (.aload_n 1, 1) := by decide +kernel
theorem dX1_enter_31 : decode cX1_enter 31 = .ok (.iload_n 3, 1) := by decide +kernel
theorem dX1_enter_32 : decode cX1_enter 32 = .ok (.invokevirtual 219, 3) := by decide +kernel
theorem dX1_enter_35 : decode cX1_enter 35 = .ok (.istore 5, 2) := by decide +kernel
theorem dX1_enter_37 : decode cX1_enter 37 = .ok (.aload 4, 2) := by decide +kernel
theorem dX1_enter_39 : decode cX1_enter 39 = .ok (.aload_n 1, 1) := by decide +kernel
theorem dX1_enter_40 : decode cX1_enter 40 = .ok (.getfield 223, 3) := by decide +kernel
theorem dX1_enter_43 : decode cX1_enter 43 = .ok (.putfield 186, 3) := by decide +kernel
theorem dX1_enter_46 : decode cX1_enter 46 = .ok (.aload_n 1, 1) := by decide +kernel
theorem dX1_enter_47 : decode cX1_enter 47 = .ok (.iload_n 2, 1) := by decide +kernel
theorem dX1_enter_48 : decode cX1_enter 48 = .ok (.iload 5, 2) := by decide +kernel
theorem dX1_enter_50 : decode cX1_enter 50 = .ok (.bipush 46, 2) := by decide +kernel
theorem dX1_enter_52 : decode cX1_enter 52 = .ok (.if_icmp .ne 7, 3) := by decide +kernel
theorem dX1_enter_55 : decode cX1_enter 55 = .ok (.iconst 1, 1) := by decide +kernel
theorem dX1_enter_56 : decode cX1_enter 56 = .ok (.goto 8, 3) := by decide +kernel
theorem dX1_enter_59 : decode cX1_enter 59 = .ok (.aload 4, 2) := by decide +kernel
theorem dX1_enter_61 : decode cX1_enter 61 = .ok (.getfield 226, 3) := by decide +kernel
theorem dX1_enter_64 : decode cX1_enter 64 = .ok (.iload_n 3, 1) := by decide +kernel
theorem dX1_enter_65 : decode cX1_enter 65 = .ok (.invokevirtual 229, 3) := by decide +kernel
theorem dX1_enter_68 : decode cX1_enter 68 = .ok (.iload 5, 2) := by decide +kernel
theorem dX1_enter_70 : decode cX1_enter 70 = .ok (.bipush 43, 2) := by decide +kernel
theorem dX1_enter_72 : decode cX1_enter 72 = .ok (.if_icmp .ne 11, 3) := by decide +kernel
theorem dX1_enter_75 : decode cX1_enter 75 = .ok (.aload_n 1, 1) := by decide +kernel
theorem dX1_enter_76 : decode cX1_enter 76 = .ok (.iload_n 2, 1) := by decide +kernel
theorem dX1_enter_77 : decode cX1_enter 77 = .ok (.invokevirtual 233, 3) := by decide +kernel
theorem dX1_enter_80 : decode cX1_enter 80 = .ok (.goto 15, 3) := by decide +kernel
theorem dX1_enter_83 : decode cX1_enter 83 = .ok (.iload 5, 2) := by decide +kernel
theorem dX1_enter_85 : decode cX1_enter 85 = .ok (.bipush 45, 2) := by decide +kernel
theorem dX1_enter_87 : decode cX1_enter 87 = .ok (.if_icmp .ne 8, 3) := by decide +kernel
theorem dX1_enter_90 : decode cX1_enter 90 = .ok (.aload_n 1, 1) := by decide +kernel
theorem dX1_enter_91 : decode cX1_enter 91 = .ok (.iload_n 2, 1) := by decide +kernel
theorem dX1_enter_92 : decode cX1_enter 92 = .ok (.invokevirtual 236, 3) := by decide +kernel
theorem dX1_enter_95 : decode cX1_enter 95 = .ok (.aload_n 0, 1) := by decide +kernel
theorem dX1_enter_96 : decode cX1_enter 96 = .ok (.aload_n 1, 1) := by decide +kernel
theorem dX1_enter_97 : decode cX1_enter 97 = .ok (.bipush 48, 2) := by decide +kernel
theorem dX1_enter_99 : decode cX1_enter 99 = .ok (.iload_n 2, 1) := by decide +kernel
theorem dX1_enter_100 : decode cX1_enter 100 = .ok (.iadd, 1) := by decide +kernel
theorem dX1_enter_101 : decode cX1_enter 101 = .ok (.i2c, 1) := by decide +kernel
theorem dX1_enter_102 : decode cX1_enter 102 = .ok (.invokevirtual 239, 3) := by decide +kernel
theorem dX1_enter_105 : decode cX1_enter 105 = .ok (.aload_n 0, 1) := by decide +kernel
theorem dX1_enter_106 : decode cX1_enter 106 = .ok (.aload_n 1, 1) := by decide +kernel
theorem dX1_enter_107 : decode cX1_enter 107 = .ok (.iload 5, 2) := by decide +kernel
theorem dX1_enter_109 : decode cX1_enter 109 = .ok (.invokevirtual 239, 3) := by decide +kernel
theorem dX1_enter_112 : decode cX1_enter 112 = .ok (.return_, 1) := by decide +kernel
theorem dX1_leave_0 : decode cX1_leave 0 = .ok (.aload_n 1, 1) := by decide +kernel
theorem dX1_leave_1 : decode cX1_leave 1 = .ok (.bipush 100, 2) := by decide +kernel
theorem dX1_leave_3 : decode cX1_leave 3 = .ok (.invokevirtual 243, 3) := by decide +kernel
theorem dX1_leave_6 : decode cX1_leave 6 = .ok (.aload_n 1, 1) := by decide +kernel
theorem dX1_leave_7 : decode cX1_leave 7 = .ok (.aload_n 0, 1) := by decide +kernel
theorem dX1_leave_8 : decode cX1_leave 8 = .ok (.getfield 57, 3) := by decide +kernel
theorem dX1_leave_11 : decode cX1_leave 11 = .ok (.putfield 111, 3) := by decide +kernel
theorem dX1_leave_14 : decode cX1_leave 14 = .ok (.aload_n 0, 1) := by decide +kernel
theorem dX1_leave_15 : decode cX1_leave 15 = .ok (.getfield 37, 3) := by decide +kernel
theorem dX1_leave_18 : decode cX1_leave 18 = .ok (.aload_n 1, 1) := by decide +kernel
theorem dX1_leave_19 : decode cX1_leave 19 = .ok (.getfield 223, 3) := by decide +kernel
theorem dX1_leave_22 : decode cX1_leave 22 = .ok (.invokevirtual 97, 3) := by decide +kernel
theorem dX1_leave_25 : decode cX1_leave 25 = .ok (.aload_n 0, 1) := by decide +kernel
theorem dX1_leave_26 : decode cX1_leave 26 = .ok (.aload_n 1, 1) := by decide +kernel
theorem dX1_leave_27 : decode cX1_leave 27 = .ok (.bipush 120, 2) := by decide +kernel
theorem dX1_leave_29 : decode cX1_leave 29 = .ok (.invokevirtual 239, 3) := by decide +kernel
theorem dX1_leave_32 : decode cX1_leave 32 = .ok (.return_, 1) := by decide +kernel
theorem dX1_comeToLoop_0 : decode cX1_comeToLoop 0 = .ok (.aload_n 1, 1) := by decide +kernel
theorem dX1_comeToLoop_1 : decode cX1_comeToLoop 1 = .ok (.bipush 108, 2) := by decide +kernel
theorem dX1_comeToLoop_3 : decode cX1_comeToLoop 3 = .ok (.invokevirtual 243, 3) := by decide +kernel
theorem dX1_comeToLoop_6 : decode cX1_comeToLoop 6 = .ok (.aload_n 0, 1) := by decide +kernel
theorem dX1_comeToLoop_7 : decode cX1_comeToLoop 7 = .ok (.getfield 34, 3) := by decide +kernel
theorem dX1_comeToLoop_10 : decode cX1_comeToLoop 10 = .ok (.aload_n 1, 1) := by decide +kernel
theorem dX1_comeToLoop_11 : decode cX1_comeToLoop 11 = .ok (.getfield 223, 3) := by decide +kernel
theorem dX1_comeToLoop_14 : decode cX1_comeToLoop 14 = .ok (.invokevirtual 97, 3) := by decide +kernel
theorem dX1_comeToLoop_17 : decode cX1_comeToLoop 17 = .ok (.aload_n 0, 1) := by decide +kernel
theorem dX1_comeToLoop_18 : decode cX1_comeToLoop 18 = .ok (.aload_n 1, 1) := by decide +kernel
theorem dX1_comeToLoop_19 : decode cX1_comeToLoop 19 = .ok (.bipush 76, 2) := by decide +kernel
theorem dX1_comeToLoop_21 : decode cX1_comeToLoop 21 = .ok (.invokevirtual 239, 3) := by decide +kernel
theorem dX1_comeToLoop_24 : decode cX1_comeToLoop 24 = .ok (.return_, 1) := by decide +kernel
theorem dX1_note_0 : decode cX1_note 0 = .ok (.aload_n 1, 1) := by decide +kernel
theorem dX1_note_1 : decode cX1_note 1 = .ok (.getfield 117, 3) := by decide +kernel
theorem dX1_note_4 : decode cX1_note 4 = .ok (.ifnull 11, 3) := by decide +kernel
theorem dX1_note_7 : decode cX1_note 7 = .ok (.aload_n 1, 1) := by decide +kernel
theorem dX1_note_8 : decode cX1_note 8 = .ok (.getfield 117, 3) := by decide +kernel
theorem dX1_note_11 : decode cX1_note 11 = .ok (.iload_n 2, 1) := by decide +kernel
theorem dX1_note_12 : decode cX1_note 12 = .ok (.invokevirtual 247, 3) := by decide +kernel
theorem dX1_note_15 : decode cX1_note 15 = .ok (.return_, 1) := by decide +kernel
theorem dX1_canEnterFromLoop_0 : decode cX1_canEnterFromLoop 0 = .ok (.iconst 0, 1) := by decide +kernel
theorem dX1_canEnterFromLoop_1 : decode cX1_canEnterFromLoop 1 = .ok (.istore_n 1, 1) := by decide +kernel
theorem dX1_canEnterFromLoop_2 : decode cX1_canEnterFromLoop 2 = .ok (.iload_n 1, 1) := by decide +kernel
theorem dX1_canEnterFromLoop_3 : decode cX1_canEnterFromLoop 3 = .ok (.aload_n 0, 1) := by decide +kernel
theorem dX1_canEnterFromLoop_4 : decode cX1_canEnterFromLoop 4 = .ok (.getfield 34, 3) := by decide +kernel
theorem dX1_canEnterFromLoop_7 : decode cX1_canEnterFromLoop 7 = .ok (.getfield 105, 3) := by decide +kernel
theorem dX1_canEnterFromLoop_10 : decode cX1_canEnterFromLoop 10 = .ok (.if_icmp .ge 39, 3) := by decide +kernel
theorem dX1_canEnterFromLoop_13 : decode cX1_canEnterFromLoop 13 = .ok (.aload_n 0, 1) := by decide +kernel
theorem dX1_canEnterFromLoop_14 : decode cX1_canEnterFromLoop 14 = .ok (.aload_n 0, 1) := by decide +kernel
theorem dX1_canEnterFromLoop_15 : decode cX1_canEnterFromLoop 15 = .ok (.getfield 34, 3) := by decide +kernel
theorem dX1_canEnterFromLoop_18 : decode cX1_canEnterFromLoop 18 = .ok (.iload_n 1, 1) := by decide +kernel
theorem dX1_canEnterFromLoop_19 : decode cX1_canEnterFromLoop 19 = .ok (.invokevirtual 108, 3) := by decide +kernel
theorem dX1_canEnterFromLoop_22 : decode cX1_canEnterFromLoop 22 = .ok (.invokevirtual 72, 3) := by decide +kernel
theorem dX1_canEnterFromLoop_25 : decode cX1_canEnterFromLoop 25 = .ok (.astore_n 2, 1) := by decide +kernel
theorem dX1_canEnterFromLoop_26 : decode cX1_canEnterFromLoop 26 = .ok (.aload_n 2, 1) := by decide +kernel
theorem dX1_canEnterFromLoop_27 : decode cX1_canEnterFromLoop 27 = .ok (.ifnull 16, 3) := by decide +kernel
theorem dX1_canEnterFromLoop_30 : decode cX1_canEnterFromLoop 30 = .ok (.aload_n 0, 1) := by decide +kernel
theorem dX1_canEnterFromLoop_31 : decode cX1_canEnterFromLoop 31 = .ok (.aload_n 2, 1) := by decide +kernel
theorem dX1_canEnterFromLoop_32 : decode cX1_canEnterFromLoop 32 = .ok (.invokevirtual 249, 3) := by decide +kernel
theorem dX1_canEnterFromLoop_35 : decode cX1_canEnterFromLoop 35 = .ok (.invokevirtual 199, 3) := by decide +kernel
theorem dX1_canEnterFromLoop_38 : decode cX1_canEnterFromLoop 38 = .ok (.ifCond .eq 5, 3) := by decide +kernel
theorem dX1_canEnterFromLoop_41 : decode cX1_canEnterFromLoop 41 = .ok (.iconst 1, 1) := by decide +kernel
theorem dX1_canEnterFromLoop_42 : decode cX1_canEnterFromLoop 42 = .ok (.ireturn, 1) := by decide +kernel
theorem dX1_canEnterFromLoop_43 : decode cX1_canEnterFromLoop 43 = .ok (.iinc 1 1, 3) := by decide +kernel
theorem dX1_canEnterFromLoop_46 : decode cX1_canEnterFromLoop 46 = .ok (.goto (-44), 3) := by decide +kernel
theorem dX1_canEnterFromLoop_49 : decode cX1_canEnterFromLoop 49 = .ok (.iconst 0, 1) := by decide +kernel
theorem dX1_canEnterFromLoop_50 : decode cX1_canEnterFromLoop 50 = .ok (.ireturn, 1) := by decide +kernel
theorem dX1_enterFromLoop_0 : decode cX1_enterFromLoop 0 = .ok (.aload_n 0, 1) := by decide +kernel
theorem dX1_enterFromLoop_1 : decode cX1_enterFromLoop 1 = .ok (.getfield 34, 3) := by decide +kernel
theorem dX1_enterFromLoop_4 : decode cX1_enterFromLoop 4 = .ok (.getfield 105, 3) := by decide +kernel
theorem dX1_enterFromLoop_7 : decode cX1_enterFromLoop 7 = .ok (.istore_n 1, 1) := by decide +kernel
theorem dX1_enterFromLoop_8 : decode cX1_enterFromLoop 8 = .ok (.iconst 0, 1) := by decide +kernel
theorem dX1_enterFromLoop_9 : decode cX1_enterFromLoop 9 = .ok (.istore_n 2, 1) := by decide +kernel
theorem dX1_enterFromLoop_10 : decode cX1_enterFromLoop 10 = .ok (.iconst 0, 1) := by decide +kernel
theorem dX1_enterFromLoop_11 : decode cX1_enterFromLoop 11 = .ok (.istore_n 3, 1) := by decide +kernel
theorem dX1_enterFromLoop_12 : decode cX1_enterFromLoop 12 = .ok (.iload_n 3, 1) := by decide +kernel
theorem dX1_enterFromLoop_13 : decode cX1_enterFromLoop 13 = .ok (.iload_n 1, 1) := by decide +kernel
theorem dX1_enterFromLoop_14 : decode cX1_enterFromLoop 14 = .ok (.if_icmp .ge 66, 3) := by decide +kernel
theorem dX1_enterFromLoop_17 : decode cX1_enterFromLoop 17 = .ok (.aload_n 0, 1) := by decide +kernel
theorem dX1_enterFromLoop_18 : decode cX1_enterFromLoop 18 = .ok (.aload_n 0, 1) := by decide +kernel
theorem dX1_enterFromLoop_19 : decode cX1_enterFromLoop 19 = .ok (.getfield 34, 3) := by decide +kernel
theorem dX1_enterFromLoop_22 : decode cX1_enterFromLoop 22 = .ok (.iload_n 2, 1) := by decide +kernel
theorem dX1_enterFromLoop_23 : decode cX1_enterFromLoop 23 = .ok (.invokevirtual 108, 3) := by decide +kernel
theorem dX1_enterFromLoop_26 : decode cX1_enterFromLoop 26 = .ok (.invokevirtual 72, 3) := by decide +kernel
theorem dX1_enterFromLoop_29 : decode cX1_enterFromLoop 29 = .ok (.astore 4, 2) := by decide +kernel
theorem dX1_enterFromLoop_31 : decode cX1_enterFromLoop 31 = .ok (.aload 4, 2) := by decide +kernel
theorem dX1_enterFromLoop_33 : decode cX1_enterFromLoop 33 = .ok (.ifnull 38, 3) := by decide +kernel
theorem dX1_enterFromLoop_36 : decode cX1_enterFromLoop 36 = .ok (.aload_n 0, 1) := by decide +kernel
theorem dX1_enterFromLoop_37 : decode cX1_enterFromLoop 37 = .ok (.aload 4, 2) := by decide +kernel
theorem dX1_enterFromLoop_39 : decode cX1_enterFromLoop 39 = .ok (.invokevirtual 249, 3) := by decide +kernel
theorem dX1_enterFromLoop_42 : decode cX1_enterFromLoop 42 = .ok (.invokevirtual 199, 3) := by decide +kernel
theorem dX1_enterFromLoop_45 : decode cX1_enterFromLoop 45 = .ok (.ifCond .eq 26, 3) := by decide +kernel
theorem dX1_enterFromLoop_48 : decode cX1_enterFromLoop 48 = .ok (.aload_n 0, 1) := by decide +kernel
theorem dX1_enterFromLoop_49 : decode cX1_enterFromLoop 49 = .ok (.getfield 34, 3) := by decide +kernel
theorem dX1_enterFromLoop_52 : decode cX1_enterFromLoop 52 = .ok (.iload_n 2, 1) := by decide +kernel
theorem dX1_enterFromLoop_53 : decode cX1_enterFromLoop 53 = .ok (.invokevirtual 252, 3) := by decide +kernel
theorem dX1_enterFromLoop_56 : decode cX1_enterFromLoop 56 = .ok (.aload_n 0, 1) := by decide +kernel
theorem dX1_enterFromLoop_57 : decode cX1_enterFromLoop 57 = .ok (.aload 4, 2) := by decide +kernel
theorem dX1_enterFromLoop_59 : decode cX1_enterFromLoop 59 = .ok (.aload 4, 2) := by decide +kernel
theorem dX1_enterFromLoop_61 : decode cX1_enterFromLoop 61 = .ok (.invokevirtual 249, 3) := by decide +kernel
theorem dX1_enterFromLoop_64 : decode cX1_enterFromLoop 64 = .ok (.iconst 1, 1) := by decide +kernel
theorem dX1_enterFromLoop_65 : decode cX1_enterFromLoop 65 = .ok (.invokevirtual 203, 3) := by decide +kernel
theorem dX1_enterFromLoop_68 : decode cX1_enterFromLoop 68 = .ok (.goto 6, 3) := by decide +kernel
theorem dX1_enterFromLoop_71 : decode cX1_enterFromLoop 71 = .ok (.iinc 2 1, 3) := by decide +kernel
theorem dX1_enterFromLoop_74 : decode cX1_enterFromLoop 74 = .ok (.iinc 3 1, 3) := by decide +kernel
theorem dX1_enterFromLoop_77 : decode cX1_enterFromLoop 77 = .ok (.goto (-65), 3) := by decide +kernel
theorem dX1_enterFromLoop_80 : decode cX1_enterFromLoop 80 = .ok (.return_, 1) := by decide +kernel
theorem dX1_canEnterFromWaiting_0 : decode cX1_canEnterFromWaiting 0 = .ok (.aload_n 0, 1) := by decide +kernel
theorem dX1_canEnterFromWaiting_1 : decode cX1_canEnterFromWaiting 1 = .ok (.getfield 30, 3) := by decide +kernel
theorem dX1_canEnterFromWaiting_4 : decode cX1_canEnterFromWaiting 4 = .ok (.getfield 105, 3) := by decide +kernel
theorem dX1_canEnterFromWaiting_7 : decode cX1_canEnterFromWaiting 7 = .ok (.ifCond .le 15, 3) := by decide +kernel
theorem dX1_canEnterFromWaiting_10 : decode cX1_canEnterFromWaiting 10 = .ok (.aload_n 0, 1) := by decide +kernel
theorem dX1_canEnterFromWaiting_11 : decode cX1_canEnterFromWaiting 11 = .ok (.iconst 0, 1) := by decide +kernel
theorem dX1_canEnterFromWaiting_12 : decode cX1_canEnterFromWaiting 12 = .ok (.invokevirtual 199, 3) := by decide +kernel
theorem dX1_canEnterFromWaiting_15 : decode cX1_canEnterFromWaiting 15 = .ok (.ifCond .eq 7, 3) := by decide +kernel
theorem dX1_canEnterFromWaiting_18 : decode cX1_canEnterFromWaiting 18 = .ok (.iconst 1, 1) := by decide +kernel
theorem dX1_canEnterFromWaiting_19 : decode cX1_canEnterFromWaiting 19 = .ok (.goto 4, 3) := by decide +kernel
theorem dX1_canEnterFromWaiting_22 : decode cX1_canEnterFromWaiting 22 = .ok (.iconst 0, 1) := by decide +kernel
theorem dX1_canEnterFromWaiting_23 : decode cX1_canEnterFromWaiting 23 = .ok (.ireturn, 1) := by decide +kernel
theorem dX1_enterFromWaiting_0 : decode cX1_enterFromWaiting 0 = .ok (.aload_n 0, 1) := by decide +kernel
theorem dX1_enterFromWaiting_1 : decode cX1_enterFromWaiting 1 = .ok (.aload_n 0, 1) := by decide +kernel
theorem dX1_enterFromWaiting_2 : decode cX1_enterFromWaiting 2 = .ok (.getfield 30, 3) := by decide +kernel
theorem dX1_enterFromWaiting_5 : decode cX1_enterFromWaiting 5 = .ok (.iconst 0, 1) := by decide +kernel
theorem dX1_enterFromWaiting_6 : decode cX1_enterFromWaiting 6 = .ok (.invokevirtual 108, 3) := by decide +kernel
theorem dX1_enterFromWaiting_9 : decode cX1_enterFromWaiting 9 = .ok (.invokevirtual 72, 3) := by decide +kernel
theorem dX1_enterFromWaiting_12 : decode cX1_enterFromWaiting 12 = .ok (.astore_n 1, 1) := by decide +kernel
theorem dX1_enterFromWaiting_13 : decode cX1_enterFromWaiting 13 = .ok (.aload_n 1, 1) := by decide +kernel
theorem dX1_enterFromWaiting_14 : decode cX1_enterFromWaiting 14 = .ok (.ifnull 26, 3) := by decide +kernel
theorem dX1_enterFromWaiting_17 : decode cX1_enterFromWaiting 17 = .ok (.aload_n 0, 1) := by decide +kernel
theorem dX1_enterFromWaiting_18 : decode cX1_enterFromWaiting 18 = .ok (.iconst 0, 1) := by decide +kernel
theorem dX1_enterFromWaiting_19 : decode cX1_enterFromWaiting 19 = .ok (.invokevirtual 199, 3) := by decide +kernel
theorem dX1_enterFromWaiting_22 : decode cX1_enterFromWaiting 22 = .ok (.ifCond .eq 18, 3) := by decide +kernel
theorem dX1_enterFromWaiting_25 : decode cX1_enterFromWaiting 25 = .ok (.aload_n 0, 1) := by decide +kernel
theorem dX1_enterFromWaiting_26 : decode cX1_enterFromWaiting 26 = .ok (.getfield 30, 3) := by decide +kernel
theorem dX1_enterFromWaiting_29 : decode cX1_enterFromWaiting 29 = .ok (.iconst 0, 1) := by decide +kernel
theorem dX1_enterFromWaiting_30 : decode cX1_enterFromWaiting 30 = .ok (.invokevirtual 252, 3) := by decide +kernel
theorem dX1_enterFromWaiting_33 : decode cX1_enterFromWaiting 33 = .ok (.aload_n 0, 1) := by decide +kernel
theorem dX1_enterFromWaiting_34 : decode cX1_enterFromWaiting 34 = .ok (.aload_n 1, 1) := by decide +kernel
theorem dX1_enterFromWaiting_35 : decode cX1_enterFromWaiting 35 = .ok (.iconst 0, 1) := by decide +kernel
theorem dX1_enterFromWaiting_36 : decode cX1_enterFromWaiting 36 = .ok (.iconst 0, 1) := by decide +kernel
theorem dX1_enterFromWaiting_37 : decode cX1_enterFromWaiting 37 = .ok (.invokevirtual 203, 3) := by decide +kernel
theorem dX1_enterFromWaiting_40 : decode cX1_enterFromWaiting 40 = .ok (.return_, 1) := by decide +kernel
theorem dX2_init_0 : decode cX2_init 0 = .ok (.aload_n 0, 1) := by decide +kernel
theorem dX2_init_1 : decode cX2_init 1 = .ok (.invokespecial 3, 3) := by decide +kernel
theorem dX2_init_4 : decode cX2_init 4 = .ok (.aload_n 0, 1) := by decide +kernel
theorem dX2_init_5 : decode cX2_init 5 = .ok (.bipush 30, 2) := by decide +kernel
theorem dX2_init_7 : decode cX2_init 7 = .ok (.newarray .int, 2) := by decide +kernel
theorem dX2_init_9 : decode cX2_init 9 = .ok (.putfield 9, 3) := by decide +kernel
theorem dX2_init_12 : decode cX2_init 12 = .ok (.return_, 1) := by decide +kernel
theorem dX2_has_0 : decode cX2_has 0 = .ok (.iload_n 1, 1) := by decide +kernel
theorem dX2_has_1 : decode cX2_has 1 = .ok (.ifCond .lt 24, 3) := by decide +kernel
theorem dX2_has_4 : decode cX2_has 4 = .ok (.iload_n 1, 1) := by decide +kernel
theorem dX2_has_5 : decode cX2_has 5 = .ok (.aload_n 0, 1) := by decide +kernel
theorem dX2_has_6 : decode cX2_has 6 = .ok (.getfield 15, 3) := by decide +kernel
theorem dX2_has_9 : decode cX2_has 9 = .ok (.if_icmp .ge 16, 3) := by decide +kernel
theorem dX2_has_12 : decode cX2_has 12 = .ok (.iload_n 1, 1) := by decide +kernel
theorem dX2_has_13 : decode cX2_has 13 = .ok (.aload_n 0, 1) := by decide +kernel
theorem dX2_has_14 : decode cX2_has 14 = .ok (.getfield 9, 3) := by decide +kernel
theorem dX2_has_17 : decode cX2_has 17 = .ok (.arraylength, 1) := by decide +kernel
theorem dX2_has_18 : decode cX2_has 18 = .ok (.if_icmp .ge 7, 3) := by decide +kernel
theorem dX2_has_21 : decode cX2_has 21 = .ok (.iconst 1, 1) := by decide +kernel
theorem dX2_has_22 : decode cX2_has 22 = .ok (.goto 4, 3) := by decide +kernel
theorem dX2_has_25 : decode cX2_has 25 = .ok (.iconst 0, 1) := by decide +kernel
theorem dX2_has_26 : decode cX2_has 26 = .ok (.ireturn, 1) := by decide +kernel
theorem dX2_at_0 : decode cX2_at 0 = .ok (.aload_n 0, 1) := by decide +kernel
theorem dX2_at_1 : decode cX2_at 1 = .ok (.iload_n 1, 1) := by decide +kernel
theorem dX2_at_2 : decode cX2_at 2 = .ok (.invokevirtual 19, 3) := by decide +kernel
theorem dX2_at_5 : decode cX2_at 5 = .ok (.ifCond .eq 12, 3) := by decide +kernel
theorem dX2_at_8 : decode cX2_at 8 = .ok (.aload_n 0, 1) := by decide +kernel
theorem dX2_at_9 : decode cX2_at 9 = .ok (.getfield 9, 3) := by decide +kernel
theorem dX2_at_12 : decode cX2_at 12 = .ok (.iload_n 1, 1) := by decide +kernel
theorem dX2_at_13 : decode cX2_at 13 = .ok (.iaload, 1) := by decide +kernel
theorem dX2_at_14 : decode cX2_at 14 = .ok (.goto 4, 3) := by decide +kernel
theorem dX2_at_17 : decode cX2_at 17 = .ok (.iconst (-1), 1) := by decide +kernel
theorem dX2_at_18 : decode cX2_at 18 = .ok (.ireturn, 1) := by decide +kernel
theorem dX2_placeOf_0 : decode cX2_placeOf 0 = .ok (.iconst 0, 1) := by decide +kernel
theorem dX2_placeOf_1 : decode cX2_placeOf 1 = .ok (.istore_n 2, 1) := by decide +kernel
theorem dX2_placeOf_2 : decode cX2_placeOf 2 = .ok (.iload_n 2, 1) := by decide +kernel
theorem dX2_placeOf_3 : decode cX2_placeOf 3 = .ok (.aload_n 0, 1) := by decide +kernel
theorem dX2_placeOf_4 : decode cX2_placeOf 4 = .ok (.getfield 9, 3) := by decide +kernel
theorem dX2_placeOf_7 : decode cX2_placeOf 7 = .ok (.arraylength, 1) := by decide +kernel
theorem dX2_placeOf_8 : decode cX2_placeOf 8 = .ok (.if_icmp .ge 20, 3) := by decide +kernel
theorem dX2_placeOf_11 : decode cX2_placeOf 11 = .ok (.aload_n 0, 1) := by decide +kernel
theorem dX2_placeOf_12 : decode cX2_placeOf 12 = .ok (.iload_n 2, 1) := by decide +kernel
theorem dX2_placeOf_13 : decode cX2_placeOf 13 = .ok (.invokevirtual 23, 3) := by decide +kernel
theorem dX2_placeOf_16 : decode cX2_placeOf 16 = .ok (.iload_n 1, 1) := by decide +kernel
theorem dX2_placeOf_17 : decode cX2_placeOf 17 = .ok (.if_icmp .ne 5, 3) := by decide +kernel
theorem dX2_placeOf_20 : decode cX2_placeOf 20 = .ok (.iload_n 2, 1) := by decide +kernel
theorem dX2_placeOf_21 : decode cX2_placeOf 21 = .ok (.ireturn, 1) := by decide +kernel
theorem dX2_placeOf_22 : decode cX2_placeOf 22 = .ok (.iinc 2 1, 3) := by decide +kernel
theorem dX2_placeOf_25 : decode cX2_placeOf 25 = .ok (.goto (-23), 3) := by decide +kernel
theorem dX2_placeOf_28 : decode cX2_placeOf 28 = .ok (.iconst (-1), 1) := by decide +kernel
theorem dX2_placeOf_29 : decode cX2_placeOf 29 = .ok (.ireturn, 1) := by decide +kernel
theorem dX2_append_0 : decode cX2_append 0 = .ok (.aload_n 0, 1) := by decide +kernel
theorem dX2_append_1 : decode cX2_append 1 = .ok (.getfield 15, 3) := by decide +kernel
theorem dX2_append_4 : decode cX2_append 4 = .ok (.ifCond .lt 35, 3) := by decide +kernel
theorem dX2_append_7 : decode cX2_append 7 = .ok (.aload_n 0, 1) := by decide +kernel
theorem dX2_append_8 : decode cX2_append 8 = .ok (.getfield 15, 3) := by decide +kernel
theorem dX2_append_11 : decode cX2_append 11 = .ok (.aload_n 0, 1) := by decide +kernel
theorem dX2_append_12 : decode cX2_append 12 = .ok (.getfield 9, 3) := by decide +kernel
theorem dX2_append_15 : decode cX2_append 15 = .ok (.arraylength, 1) := by decide +kernel
theorem dX2_append_16 : decode cX2_append 16 = .ok (.if_icmp .ge 23, 3) := by decide +kernel
theorem dX2_append_19 : decode cX2_append 19 = .ok (.aload_n 0, 1) := by decide +kernel
theorem dX2_append_20 : decode cX2_append 20 = .ok (.getfield 9, 3) := by decide +kernel
theorem dX2_append_23 : decode cX2_append 23 = .ok (.aload_n 0, 1) := by decide +kernel
theorem dX2_append_24 : decode cX2_append 24 = .ok (.getfield 15, 3) := by decide +kernel
theorem dX2_append_27 : decode cX2_append 27 = .ok (.iload_n 1, 1) := by decide +kernel
theorem dX2_append_28 : decode cX2_append 28 = .ok (.iastore, 1) := by decide +kernel
theorem dX2_append_29 : decode cX2_append 29 = .ok (.aload_n 0, 1) := by decide +kernel
theorem dX2_append_30 : decode cX2_append 30 = .ok (.dup, 1) := by decide +kernel
theorem dX2_append_31 : decode cX2_append 31 = .ok (.getfield 15, 3) := by decide +kernel
theorem dX2_append_34 : decode cX2_append 34 = .ok (.iconst 1, 1) := by decide +kernel
theorem dX2_append_35 : decode cX2_append 35 = .ok (.iadd, 1) := by decide +kernel
theorem dX2_append_36 : decode cX2_append 36 = .ok (.putfield 15, 3) := by decide +kernel
theorem dX2_append_39 : decode cX2_append 39 = .ok (.return_, 1) := by decide +kernel
theorem dX2_removeAt_0 : decode cX2_removeAt 0 = .ok (.aload_n 0, 1) := by decide +kernel
theorem dX2_removeAt_1 : decode cX2_removeAt 1 = .ok (.iload_n 1, 1) := by decide +kernel
theorem dX2_removeAt_2 : decode cX2_removeAt 2 = .ok (.invokevirtual 19, 3) := by decide +kernel
theorem dX2_removeAt_5 : decode cX2_removeAt 5 = .ok (.ifCond .ne 4, 3) := by decide +kernel
theorem dX2_removeAt_8 : decode cX2_removeAt 8 = .ok (.return_, 1) := by decide +kernel
theorem dX2_removeAt_9 : decode cX2_removeAt 9 = .ok (.iload_n 1, 1) := by decide +kernel
theorem dX2_removeAt_10 : decode cX2_removeAt 10 = .ok (.istore_n 2, 1) := by decide +kernel
theorem dX2_removeAt_11 : decode cX2_removeAt 11 = .ok (.iload_n 2, 1) := by decide +kernel
theorem dX2_removeAt_12 : decode cX2_removeAt 12 = .ok (.aload_n 0, 1) := by decide +kernel
theorem dX2_removeAt_13 : decode cX2_removeAt 13 = .ok (.getfield 9, 3) := by decide +kernel
theorem dX2_removeAt_16 : decode cX2_removeAt 16 = .ok (.arraylength, 1) := by decide +kernel
theorem dX2_removeAt_17 : decode cX2_removeAt 17 = .ok (.iconst 1, 1) := by decide +kernel
theorem dX2_removeAt_18 : decode cX2_removeAt 18 = .ok (.isub, 1) := by decide +kernel
theorem dX2_removeAt_19 : decode cX2_removeAt 19 = .ok (.if_icmp .ge 23, 3) := by decide +kernel
theorem dX2_removeAt_22 : decode cX2_removeAt 22 = .ok (.aload_n 0, 1) := by decide +kernel
theorem dX2_removeAt_23 : decode cX2_removeAt 23 = .ok (.getfield 9, 3) := by decide +kernel
theorem dX2_removeAt_26 : decode cX2_removeAt 26 = .ok (.iload_n 2, 1) := by decide +kernel
theorem dX2_removeAt_27 : decode cX2_removeAt 27 = .ok (.aload_n 0, 1) := by decide +kernel
theorem dX2_removeAt_28 : decode cX2_removeAt 28 = .ok (.getfield 9, 3) := by decide +kernel
theorem dX2_removeAt_31 : decode cX2_removeAt 31 = .ok (.iload_n 2, 1) := by decide +kernel
theorem dX2_removeAt_32 : decode cX2_removeAt 32 = .ok (.iconst 1, 1) := by decide +kernel
theorem dX2_removeAt_33 : decode cX2_removeAt 33 = .ok (.iadd, 1) := by decide +kernel
theorem dX2_removeAt_34 : decode cX2_removeAt 34 = .ok (.iaload, 1) := by decide +kernel
theorem dX2_removeAt_35 : decode cX2_removeAt 35 = .ok (.iastore, 1) := by decide +kernel
theorem dX2_removeAt_36 : decode cX2_removeAt 36 = .ok (.iinc 2 1, 3) := by decide +kernel
theorem dX2_removeAt_39 : decode cX2_removeAt 39 = .ok (.goto (-28), 3) := by decide +kernel
theorem dX2_removeAt_42 : decode cX2_removeAt 42 = .ok (.aload_n 0, 1) := by decide +kernel
theorem dX2_removeAt_43 : decode cX2_removeAt 43 = .ok (.dup, 1) := by decide +kernel
theorem dX2_removeAt_44 : decode cX2_removeAt 44 = .ok (.getfield 15, 3) := by decide +kernel
theorem dX2_removeAt_47 : decode cX2_removeAt 47 = .ok (.iconst 1, 1) := by decide +kernel
theorem dX2_removeAt_48 : decode cX2_removeAt 48 = .ok (.isub, 1) := by decide +kernel
theorem dX2_removeAt_49 : decode cX2_removeAt 49 = .ok (.putfield 15, 3) := by decide +kernel
theorem dX2_removeAt_52 : decode cX2_removeAt 52 = .ok (.return_, 1) := by decide +kernel
theorem dX2_exchange_0 : decode cX2_exchange 0 = .ok (.aload_n 0, 1) := by decide +kernel
theorem dX2_exchange_1 : decode cX2_exchange 1 = .ok (.iload_n 1, 1) := by decide +kernel
theorem dX2_exchange_2 : decode cX2_exchange 2 = .ok (.invokevirtual 19, 3) := by decide +kernel
theorem dX2_exchange_5 : decode cX2_exchange 5 = .ok (.ifCond .eq 37, 3) := by decide +kernel
theorem dX2_exchange_8 : decode cX2_exchange 8 = .ok (.aload_n 0, 1) := by decide +kernel
theorem dX2_exchange_9 : decode cX2_exchange 9 = .ok (.iload_n 2, 1) := by decide +kernel
theorem dX2_exchange_10 : decode cX2_exchange 10 = .ok (.invokevirtual 19, 3) := by decide +kernel
theorem dX2_exchange_13 : decode cX2_exchange 13 = .ok (.ifCond .eq 29, 3) := by decide +kernel
theorem dX2_exchange_16 : decode cX2_exchange 16 = .ok (.aload_n 0, 1) := by decide +kernel
theorem dX2_exchange_17 : decode cX2_exchange 17 = .ok (.getfield 9, 3) := by decide +kernel
theorem dX2_exchange_20 : decode cX2_exchange 20 = .ok (.iload_n 1, 1) := by decide +kernel
theorem dX2_exchange_21 : decode cX2_exchange 21 = .ok (.iaload, 1) := by decide +kernel
theorem dX2_exchange_22 : decode cX2_exchange 22 = .ok (.istore_n 3, 1) := by decide +kernel
theorem dX2_exchange_23 : decode cX2_exchange 23 = .ok (.aload_n 0, 1) := by decide +kernel
theorem dX2_exchange_24 : decode cX2_exchange 24 = .ok (.getfield 9, 3) := by decide +kernel
theorem dX2_exchange_27 : decode cX2_exchange 27 = .ok (.iload_n 1, 1) := by decide +kernel
theorem dX2_exchange_28 : decode cX2_exchange 28 = .ok (.aload_n 0, 1) := by decide +kernel
theorem dX2_exchange_29 : decode cX2_exchange 29 = .ok (.getfield 9, 3) := by decide +kernel
theorem dX2_exchange_32 : decode cX2_exchange 32 = .ok (.iload_n 2, 1) := by decide +kernel
theorem dX2_exchange_33 : decode cX2_exchange 33 = .ok (.iaload, 1) := by decide +kernel
theorem dX2_exchange_34 : decode cX2_exchange 34 = .ok (.iastore, 1) := by decide +kernel
theorem dX2_exchange_35 : decode cX2_exchange 35 = .ok (.aload_n 0, 1) := by decide +kernel
theorem dX2_exchange_36 : decode cX2_exchange 36 = .ok (.getfield 9, 3) := by decide +kernel
theorem dX2_exchange_39 : decode cX2_exchange 39 = .ok (.iload_n 2, 1) := by decide +kernel
theorem dX2_exchange_40 : decode cX2_exchange 40 = .ok (.iload_n 3, 1) := by decide +kernel
theorem dX2_exchange_41 : decode cX2_exchange 41 = .ok (.iastore, 1) := by decide +kernel
theorem dX2_exchange_42 : decode cX2_exchange 42 = .ok (.return_, 1) := by decide +kernel
theorem dX2_copyFrom_0 : decode cX2_copyFrom 0 = .ok (.aload_n 0, 1) := by decide +kernel
theorem dX2_copyFrom_1 : decode cX2_copyFrom 1 = .ok (.aload_n 1, 1) := by decide +kernel
theorem dX2_copyFrom_2 : decode cX2_copyFrom 2 = .ok (.getfield 15, 3) := by decide +kernel
theorem dX2_copyFrom_5 : decode cX2_copyFrom 5 = .ok (.putfield 15, 3) := by decide +kernel
theorem dX2_copyFrom_8 : decode cX2_copyFrom 8 = .ok (.iconst 0, 1) := by decide +kernel
theorem dX2_copyFrom_9 : decode cX2_copyFrom 9 = .ok (.istore_n 2, 1) := by decide +kernel
theorem dX2_copyFrom_10 : decode cX2_copyFrom 10 = .ok (.iload_n 2, 1) := by decide +kernel
theorem dX2_copyFrom_11 : decode cX2_copyFrom 11 = .ok (.aload_n 0, 1) := by decide +kernel
theorem dX2_copyFrom_12 : decode cX2_copyFrom 12 = .ok (.getfield 9, 3) := by decide +kernel
theorem dX2_copyFrom_15 : decode cX2_copyFrom 15 = .ok (.arraylength, 1) := by decide +kernel
theorem dX2_copyFrom_16 : decode cX2_copyFrom 16 = .ok (.if_icmp .ge 20, 3) := by decide +kernel
theorem dX2_copyFrom_19 : decode cX2_copyFrom 19 = .ok (.aload_n 0, 1) := by decide +kernel
theorem dX2_copyFrom_20 : decode cX2_copyFrom 20 = .ok (.getfield 9, 3) := by decide +kernel
theorem dX2_copyFrom_23 : decode cX2_copyFrom 23 = .ok (.iload_n 2, 1) := by decide +kernel
theorem dX2_copyFrom_24 : decode cX2_copyFrom 24 = .ok (.aload_n 1, 1) := by decide +kernel
theorem dX2_copyFrom_25 : decode cX2_copyFrom 25 = .ok (.iload_n 2, 1) := by decide +kernel
theorem dX2_copyFrom_26 : decode cX2_copyFrom 26 = .ok (.invokevirtual 23, 3) := by decide +kernel
theorem dX2_copyFrom_29 : decode cX2_copyFrom 29 = .ok (.iastore, 1) := by decide +kernel
theorem dX2_copyFrom_30 : decode cX2_copyFrom 30 = .ok (.iinc 2 1, 3) := by decide +kernel
theorem dX2_copyFrom_33 : decode cX2_copyFrom 33 = .ok (.goto (-23), 3) := by decide +kernel
theorem dX2_copyFrom_36 : decode cX2_copyFrom 36 = .ok (.return_, 1) := by decide +kernel
theorem dX3_init_0 : decode cX3_init 0 = .ok (.aload_n 0, 1) := by decide +kernel
theorem dX3_init_1 : decode cX3_init 1 = .ok (.invokespecial 3, 3) := by decide +kernel
theorem dX3_init_4 : decode cX3_init 4 = .ok (.aload_n 0, 1) := by decide +kernel
theorem dX3_init_5 : decode cX3_init 5 = .ok (.iconst (-1), 1) := by decide +kernel
theorem dX3_init_6 : decode cX3_init 6 = .ok (.putfield 9, 3) := by decide +kernel
theorem dX3_init_9 : decode cX3_init 9 = .ok (.aload_n 0, 1) := by decide +kernel
theorem dX3_init_10 : decode cX3_init 10 = .ok (.iconst (-1), 1) := by decide +kernel
theorem dX3_init_11 : decode cX3_init 11 = .ok (.putfield 15, 3) := by decide +kernel
theorem dX3_init_14 : decode cX3_init 14 = .ok (.return_, 1) := by decide +kernel
theorem dX3_setUp_0 : decode cX3_setUp 0 = .ok (.aload_n 0, 1) := by decide +kernel
theorem dX3_setUp_1 : decode cX3_setUp 1 = .ok (.iload_n 1, 1) := by decide +kernel
theorem dX3_setUp_2 : decode cX3_setUp 2 = .ok (.putfield 18, 3) := by decide +kernel
theorem dX3_setUp_5 : decode cX3_setUp 5 = .ok (.aload_n 0, 1) := by decide +kernel
theorem dX3_setUp_6 : decode cX3_setUp 6 = .ok (.iload_n 2, 1) := by decide +kernel
theorem dX3_setUp_7 : decode cX3_setUp 7 = .ok (.putfield 9, 3) := by decide +kernel
theorem dX3_setUp_10 : decode cX3_setUp 10 = .ok (.aload_n 0, 1) := by decide +kernel
theorem dX3_setUp_11 : decode cX3_setUp 11 = .ok (.iload_n 3, 1) := by decide +kernel
theorem dX3_setUp_12 : decode cX3_setUp 12 = .ok (.putfield 21, 3) := by decide +kernel
theorem dX3_setUp_15 : decode cX3_setUp 15 = .ok (.aload_n 0, 1) := by decide +kernel
theorem dX3_setUp_16 : decode cX3_setUp 16 = .ok (.iload 4, 2) := by decide +kernel
theorem dX3_setUp_18 : decode cX3_setUp 18 = .ok (.putfield 24, 3) := by decide +kernel
theorem dX3_setUp_21 : decode cX3_setUp 21 = .ok (.return_, 1) := by decide +kernel
theorem dX3_copyFrom_0 : decode cX3_copyFrom 0 = .ok (.aload_n 0, 1) := by decide +kernel
theorem dX3_copyFrom_1 : decode cX3_copyFrom 1 = .ok (.aload_n 1, 1) := by decide +kernel
theorem dX3_copyFrom_2 : decode cX3_copyFrom 2 = .ok (.getfield 18, 3) := by decide +kernel
theorem dX3_copyFrom_5 : decode cX3_copyFrom 5 = .ok (.aload_n 1, 1) := by decide +kernel
theorem dX3_copyFrom_6 : decode cX3_copyFrom 6 = .ok (.getfield 9, 3) := by decide +kernel
theorem dX3_copyFrom_9 : decode cX3_copyFrom 9 = .ok (.aload_n 1, 1) := by decide +kernel
theorem dX3_copyFrom_10 : decode cX3_copyFrom 10 = .ok (.getfield 21, 3) := by decide +kernel
theorem dX3_copyFrom_13 : decode cX3_copyFrom 13 = .ok (.aload_n 1, 1) := by decide +kernel
theorem dX3_copyFrom_14 : decode cX3_copyFrom 14 = .ok (.getfield 24, 3) := by decide +kernel
theorem dX3_copyFrom_17 : decode cX3_copyFrom 17 = .ok (.invokevirtual 27, 3) := by decide +kernel
theorem dX3_copyFrom_20 : decode cX3_copyFrom 20 = .ok (.aload_n 0, 1) := by decide +kernel
theorem dX3_copyFrom_21 : decode cX3_copyFrom 21 = .ok (.aload_n 1, 1) := by decide +kernel
theorem dX3_copyFrom_22 : decode cX3_copyFrom 22 = .ok (.getfield 31, 3) := by decide +kernel
theorem dX3_copyFrom_25 : decode cX3_copyFrom 25 = .ok (.putfield 31, 3) := by decide +kernel
theorem dX3_copyFrom_28 : decode cX3_copyFrom 28 = .ok (.aload_n 0, 1) := by decide +kernel
theorem dX3_copyFrom_29 : decode cX3_copyFrom 29 = .ok (.aload_n 1, 1) := by decide +kernel
theorem dX3_copyFrom_30 : decode cX3_copyFrom 30 = .ok (.getfield 15, 3) := by decide +kernel
theorem dX3_copyFrom_33 : decode cX3_copyFrom 33 = .ok (.putfield 15, 3) := by decide +kernel
theorem dX3_copyFrom_36 : decode cX3_copyFrom 36 = .ok (.aload_n 0, 1) := by decide +kernel
theorem dX3_copyFrom_37 : decode cX3_copyFrom 37 = .ok (.aload_n 1, 1) := by decide +kernel
theorem dX3_copyFrom_38 : decode cX3_copyFrom 38 = .ok (.getfield 34, 3) := by decide +kernel
theorem dX3_copyFrom_41 : decode cX3_copyFrom 41 = .ok (.putfield 34, 3) := by decide +kernel
theorem dX3_copyFrom_44 : decode cX3_copyFrom 44 = .ok (.aload_n 0, 1) := by decide +kernel
theorem dX3_copyFrom_45 : decode cX3_copyFrom 45 = .ok (.aload_n 1, 1) := by decide +kernel
theorem dX3_copyFrom_46 : decode cX3_copyFrom 46 = .ok (.getfield 37, 3) := by decide +kernel
theorem dX3_copyFrom_49 : decode cX3_copyFrom 49 = .ok (.putfield 37, 3) := by decide +kernel
theorem dX3_copyFrom_52 : decode cX3_copyFrom 52 = .ok (.return_, 1) := by decide +kernel
theorem dX3_serve_0 : decode cX3_serve 0 = .ok (.aload_n 0, 1) := by decide +kernel
theorem dX3_serve_1 : decode cX3_serve 1 = .ok (.getfield 9, 3) := by decide +kernel
theorem dX3_serve_4 : decode cX3_serve 4 = .ok (.iconst (-1), 1) := by decide +kernel
theorem dX3_serve_5 : decode cX3_serve 5 = .ok (.if_icmp .ne 6, 3) := by decide +kernel
theorem dX3_serve_8 : decode cX3_serve 8 = .ok (.bipush 43, 2) := by decide +kernel
theorem dX3_serve_10 : decode cX3_serve 10 = .ok (.ireturn, 1) := by decide +kernel
theorem dX3_serve_11 : decode cX3_serve 11 = .ok (.aload_n 1, 1) := by decide +kernel
theorem dX3_serve_12 : decode cX3_serve 12 = .ok (.aload_n 0, 1) := by decide +kernel
theorem dX3_serve_13 : decode cX3_serve 13 = .ok (.getfield 9, 3) := by decide +kernel
theorem dX3_serve_16 : decode cX3_serve 16 = .ok (.invokevirtual 41, 3) := by decide +kernel
theorem dX3_serve_19 : decode cX3_serve 19 = .ok (.ifCond .ne 15, 3) := by decide +kernel
theorem dX3_serve_22 : decode cX3_serve 22 = .ok (.iload_n 2, 1) := by decide +kernel
theorem dX3_serve_23 : decode cX3_serve 23 = .ok (.ifCond .eq 8, 3) := by decide +kernel
theorem dX3_serve_26 : decode cX3_serve 26 = .ok (.bipush 43, 2) := by decide +kernel
theorem dX3_serve_28 : decode cX3_serve 28 = .ok (.goto 5, 3) := by decide +kernel
theorem dX3_serve_31 : decode cX3_serve 31 = .ok (.bipush 46, 2) := by decide +kernel
theorem dX3_serve_33 : decode cX3_serve 33 = .ok (.ireturn, 1) := by decide +kernel
theorem dX3_serve_34 : decode cX3_serve 34 = .ok (.aload_n 0, 1) := by decide +kernel
theorem dX3_serve_35 : decode cX3_serve 35 = .ok (.getfield 31, 3) := by decide +kernel
theorem dX3_serve_38 : decode cX3_serve 38 = .ok (.aload_n 0, 1) := by decide +kernel
theorem dX3_serve_39 : decode cX3_serve 39 = .ok (.getfield 21, 3) := by decide +kernel
theorem dX3_serve_42 : decode cX3_serve 42 = .ok (.if_icmp .ge 16, 3) := by decide +kernel
theorem dX3_serve_45 : decode cX3_serve 45 = .ok (.aload_n 0, 1) := by decide +kernel
theorem dX3_serve_46 : decode cX3_serve 46 = .ok (.dup, 1) := by decide +kernel
theorem dX3_serve_47 : decode cX3_serve 47 = .ok (.getfield 34, 3) := by decide +kernel
theorem dX3_serve_50 : decode cX3_serve 50 = .ok (.iconst 1, 1) := by decide +kernel
theorem dX3_serve_51 : decode cX3_serve 51 = .ok (.iadd, 1) := by decide +kernel
theorem dX3_serve_52 : decode cX3_serve 52 = .ok (.putfield 34, 3) := by decide +kernel
theorem dX3_serve_55 : decode cX3_serve 55 = .ok (.bipush 45, 2) := by decide +kernel
theorem dX3_serve_57 : decode cX3_serve 57 = .ok (.ireturn, 1) := by decide +kernel
theorem dX3_serve_58 : decode cX3_serve 58 = .ok (.aload_n 0, 1) := by decide +kernel
theorem dX3_serve_59 : decode cX3_serve 59 = .ok (.dup, 1) := by decide +kernel
theorem dX3_serve_60 : decode cX3_serve 60 = .ok (.getfield 31, 3) := by decide +kernel
theorem dX3_serve_63 : decode cX3_serve 63 = .ok (.aload_n 0, 1) := by decide +kernel
theorem dX3_serve_64 : decode cX3_serve 64 = .ok (.getfield 21, 3) := by decide +kernel
theorem dX3_serve_67 : decode cX3_serve 67 = .ok (.isub, 1) := by decide +kernel
theorem dX3_serve_68 : decode cX3_serve 68 = .ok (.putfield 31, 3) := by decide +kernel
theorem dX3_serve_71 : decode cX3_serve 71 = .ok (.aload_n 0, 1) := by decide +kernel
theorem dX3_serve_72 : decode cX3_serve 72 = .ok (.dup, 1) := by decide +kernel
theorem dX3_serve_73 : decode cX3_serve 73 = .ok (.getfield 37, 3) := by decide +kernel
theorem dX3_serve_76 : decode cX3_serve 76 = .ok (.aload_n 0, 1) := by decide +kernel
theorem dX3_serve_77 : decode cX3_serve 77 = .ok (.getfield 21, 3) := by decide +kernel
theorem dX3_serve_80 : decode cX3_serve 80 = .ok (.i2l, 1) := by decide +kernel
theorem dX3_serve_81 : decode cX3_serve 81 = .ok (.ladd, 1) := by decide +kernel
theorem dX3_serve_82 : decode cX3_serve 82 = .ok (.putfield 37, 3) := by decide +kernel
theorem dX3_serve_85 : decode cX3_serve 85 = .ok (.bipush 43, 2) := by decide +kernel
theorem dX3_serve_87 : decode cX3_serve 87 = .ok (.ireturn, 1) := by decide +kernel
theorem dX4_init_0 : decode cX4_init 0 = .ok (.aload_n 0, 1) := by decide +kernel
theorem dX4_init_1 : decode cX4_init 1 = .ok (.invokespecial 3, 3) := by decide +kernel
theorem dX4_init_4 : decode cX4_init 4 = .ok (.aload_n 0, 1) := by decide +kernel
theorem dX4_init_5 : decode cX4_init 5 = .ok (.bipush 32, 2) := by decide +kernel
theorem dX4_init_7 : decode cX4_init 7 = .ok (.newarray .char, 2) := by decide +kernel
theorem dX4_init_9 : decode cX4_init 9 = .ok (.putfield 9, 3) := by decide +kernel
theorem dX4_init_12 : decode cX4_init 12 = .ok (.aload_n 0, 1) := by decide +kernel
theorem dX4_init_13 : decode cX4_init 13 = .ok (.iconst 5, 1) := by decide +kernel
theorem dX4_init_14 : decode cX4_init 14 = .ok (.newarray .int, 2) := by decide +kernel
theorem dX4_init_16 : decode cX4_init 16 = .ok (.putfield 15, 3) := by decide +kernel
theorem dX4_init_19 : decode cX4_init 19 = .ok (.return_, 1) := by decide +kernel
theorem dX4_has_0 : decode cX4_has 0 = .ok (.iload_n 1, 1) := by decide +kernel
theorem dX4_has_1 : decode cX4_has 1 = .ok (.ifCond .lt 24, 3) := by decide +kernel
theorem dX4_has_4 : decode cX4_has 4 = .ok (.iload_n 1, 1) := by decide +kernel
theorem dX4_has_5 : decode cX4_has 5 = .ok (.aload_n 0, 1) := by decide +kernel
theorem dX4_has_6 : decode cX4_has 6 = .ok (.getfield 19, 3) := by decide +kernel
theorem dX4_has_9 : decode cX4_has 9 = .ok (.if_icmp .ge 16, 3) := by decide +kernel
theorem dX4_has_12 : decode cX4_has 12 = .ok (.iload_n 1, 1) := by decide +kernel
theorem dX4_has_13 : decode cX4_has 13 = .ok (.aload_n 0, 1) := by decide +kernel
theorem dX4_has_14 : decode cX4_has 14 = .ok (.getfield 9, 3) := by decide +kernel
theorem dX4_has_17 : decode cX4_has 17 = .ok (.arraylength, 1) := by decide +kernel
theorem dX4_has_18 : decode cX4_has 18 = .ok (.if_icmp .ge 7, 3) := by decide +kernel
theorem dX4_has_21 : decode cX4_has 21 = .ok (.iconst 1, 1) := by decide +kernel
theorem dX4_has_22 : decode cX4_has 22 = .ok (.goto 4, 3) := by decide +kernel
theorem dX4_has_25 : decode cX4_has 25 = .ok (.iconst 0, 1) := by decide +kernel
theorem dX4_has_26 : decode cX4_has 26 = .ok (.ireturn, 1) := by decide +kernel
theorem dX4_signAt_0 : decode cX4_signAt 0 = .ok (.aload_n 0, 1) := by decide +kernel
theorem dX4_signAt_1 : decode cX4_signAt 1 = .ok (.iload_n 1, 1) := by decide +kernel
theorem dX4_signAt_2 : decode cX4_signAt 2 = .ok (.invokevirtual 23, 3) := by decide +kernel
theorem dX4_signAt_5 : decode cX4_signAt 5 = .ok (.ifCond .eq 12, 3) := by decide +kernel
theorem dX4_signAt_8 : decode cX4_signAt 8 = .ok (.aload_n 0, 1) := by decide +kernel
theorem dX4_signAt_9 : decode cX4_signAt 9 = .ok (.getfield 9, 3) := by decide +kernel
theorem dX4_signAt_12 : decode cX4_signAt 12 = .ok (.iload_n 1, 1) := by decide +kernel
theorem dX4_signAt_13 : decode cX4_signAt 13 = .ok (.caload, 1) := by decide +kernel
theorem dX4_signAt_14 : decode cX4_signAt 14 = .ok (.goto 5, 3) := by decide +kernel
theorem dX4_signAt_17 : decode cX4_signAt 17 = .ok (.bipush 120, 2) := by decide +kernel
theorem dX4_signAt_19 : decode cX4_signAt 19 = .ok (.ireturn, 1) := by decide +kernel
theorem dX4_append_0 : decode cX4_append 0 = .ok (.aload_n 0, 1) := by decide +kernel
theorem dX4_append_1 : decode cX4_append 1 = .ok (.getfield 19, 3) := by decide +kernel
theorem dX4_append_4 : decode cX4_append 4 = .ok (.aload_n 0, 1) := by decide +kernel
theorem dX4_append_5 : decode cX4_append 5 = .ok (.getfield 9, 3) := by decide +kernel
theorem dX4_append_8 : decode cX4_append 8 = .ok (.arraylength, 1) := by decide +kernel
theorem dX4_append_9 : decode cX4_append 9 = .ok (.if_icmp .lt 7, 3) := by decide +kernel
theorem dX4_append_12 : decode cX4_append 12 = .ok (.aload_n 0, 1) := by decide +kernel
theorem dX4_append_13 : decode cX4_append 13 = .ok (.invokevirtual 27, 3) := by decide +kernel
theorem dX4_append_16 : decode cX4_append 16 = .ok (.aload_n 0, 1) := by decide +kernel
theorem dX4_append_17 : decode cX4_append 17 = .ok (.getfield 19, 3) := by decide +kernel
theorem dX4_append_20 : decode cX4_append 20 = .ok (.ifCond .lt 35, 3) := by decide +kernel
theorem dX4_append_23 : decode cX4_append 23 = .ok (.aload_n 0, 1) := by decide +kernel
theorem dX4_append_24 : decode cX4_append 24 = .ok (.getfield 19, 3) := by decide +kernel
theorem dX4_append_27 : decode cX4_append 27 = .ok (.aload_n 0, 1) := by decide +kernel
theorem dX4_append_28 : decode cX4_append 28 = .ok (.getfield 9, 3) := by decide +kernel
theorem dX4_append_31 : decode cX4_append 31 = .ok (.arraylength, 1) := by decide +kernel
theorem dX4_append_32 : decode cX4_append 32 = .ok (.if_icmp .ge 23, 3) := by decide +kernel
theorem dX4_append_35 : decode cX4_append 35 = .ok (.aload_n 0, 1) := by decide +kernel
theorem dX4_append_36 : decode cX4_append 36 = .ok (.getfield 9, 3) := by decide +kernel
theorem dX4_append_39 : decode cX4_append 39 = .ok (.aload_n 0, 1) := by decide +kernel
theorem dX4_append_40 : decode cX4_append 40 = .ok (.getfield 19, 3) := by decide +kernel
theorem dX4_append_43 : decode cX4_append 43 = .ok (.iload_n 1, 1) := by decide +kernel
theorem dX4_append_44 : decode cX4_append 44 = .ok (.castore, 1) := by decide +kernel
theorem dX4_append_45 : decode cX4_append 45 = .ok (.aload_n 0, 1) := by decide +kernel
theorem dX4_append_46 : decode cX4_append 46 = .ok (.dup, 1) := by decide +kernel
theorem dX4_append_47 : decode cX4_append 47 = .ok (.getfield 19, 3) := by decide +kernel
theorem dX4_append_50 : decode cX4_append 50 = .ok (.iconst 1, 1) := by decide +kernel
theorem dX4_append_51 : decode cX4_append 51 = .ok (.iadd, 1) := by decide +kernel
theorem dX4_append_52 : decode cX4_append 52 = .ok (.putfield 19, 3) := by decide +kernel
theorem dX4_append_55 : decode cX4_append 55 = .ok (.ldc 30, 2) := by decide +kernel
theorem dX4_append_57 : decode cX4_append 57 = .ok (.iload_n 1, 1) := by decide +kernel
theorem dX4_append_58 : decode cX4_append 58 = .ok (.invokevirtual 32, 3) := by decide +kernel
theorem dX4_append_61 : decode cX4_append 61 = .ok (.istore_n 2, 1) := by decide +kernel
theorem dX4_append_62 : decode cX4_append 62 = .ok (.iload_n 2, 1) := by decide +kernel
theorem dX4_append_63 : decode cX4_append 63 = .ok (.ifCond .lt 22, 3) := by decide +kernel
theorem dX4_append_66 : decode cX4_append 66 = .ok (.iload_n 2, 1) := by decide +kernel
theorem dX4_append_67 : decode cX4_append 67 = .ok (.aload_n 0, 1) := by decide +kernel
theorem dX4_append_68 : decode cX4_append 68 = .ok (.getfield 15, 3) := by decide +kernel
theorem dX4_append_71 : decode cX4_append 71 = .ok (.arraylength, 1) := by decide +kernel
theorem dX4_append_72 : decode cX4_append 72 = .ok (.if_icmp .ge 13, 3) := by decide +kernel
theorem dX4_append_75 : decode cX4_append 75 = .ok (.aload_n 0, 1) := by decide +kernel
theorem dX4_append_76 : decode cX4_append 76 = .ok (.getfield 15, 3) := by decide +kernel
theorem dX4_append_79 : decode cX4_append 79 = .ok (.iload_n 2, 1) := by decide +kernel
theorem dX4_append_80 : decode cX4_append 80 = .ok (.dup2, 1) := by decide +kernel
theorem dX4_append_81 : decode cX4_append 81 = .ok (.iaload, 1) := by decide +kernel
theorem dX4_append_82 : decode cX4_append 82 = .ok (.iconst 1, 1) := by decide +kernel
theorem dX4_append_83 : decode cX4_append 83 = .ok (.iadd, 1) := by decide +kernel
theorem dX4_append_84 : decode cX4_append 84 = .ok (.iastore, 1) := by decide +kernel
theorem dX4_append_85 : decode cX4_append 85 = .ok (.return_, 1) := by decide +kernel
theorem dX4_totalOf_0 : decode cX4_totalOf 0 = .ok (.ldc 30, 2) := by decide +kernel
theorem dX4_totalOf_2 : decode cX4_totalOf 2 = .ok (.iload_n 1, 1) := by decide +kernel
theorem dX4_totalOf_3 : decode cX4_totalOf 3 = .ok (.invokevirtual 32, 3) := by decide +kernel
theorem dX4_totalOf_6 : decode cX4_totalOf 6 = .ok (.istore_n 2, 1) := by decide +kernel
theorem dX4_totalOf_7 : decode cX4_totalOf 7 = .ok (.iload_n 2, 1) := by decide +kernel
theorem dX4_totalOf_8 : decode cX4_totalOf 8 = .ok (.ifCond .lt 21, 3) := by decide +kernel
theorem dX4_totalOf_11 : decode cX4_totalOf 11 = .ok (.iload_n 2, 1) := by decide +kernel
theorem dX4_totalOf_12 : decode cX4_totalOf 12 = .ok (.aload_n 0, 1) := by decide +kernel
theorem dX4_totalOf_13 : decode cX4_totalOf 13 = .ok (.getfield 15, 3) := by decide +kernel
theorem dX4_totalOf_16 : decode cX4_totalOf 16 = .ok (.arraylength, 1) := by decide +kernel
theorem dX4_totalOf_17 : decode cX4_totalOf 17 = .ok (.if_icmp .ge 12, 3) := by decide +kernel
theorem dX4_totalOf_20 : decode cX4_totalOf 20 = .ok (.aload_n 0, 1) := by decide +kernel
theorem dX4_totalOf_21 : decode cX4_totalOf 21 = .ok (.getfield 15, 3) := by decide +kernel
theorem dX4_totalOf_24 : decode cX4_totalOf 24 = .ok (.iload_n 2, 1) := by decide +kernel
theorem dX4_totalOf_25 : decode cX4_totalOf 25 = .ok (.iaload, 1) := by decide +kernel
theorem dX4_totalOf_26 : decode cX4_totalOf 26 = .ok (.goto 4, 3) := by decide +kernel
theorem dX4_totalOf_29 : decode cX4_totalOf 29 = .ok (.iconst 0, 1) := by decide +kernel
theorem dX4_totalOf_30 : decode cX4_totalOf 30 = .ok (.ireturn, 1) := by decide +kernel
theorem dX4_grow_0 : decode cX4_grow 0 = .ok (.aload_n 0, 1) := by decide +kernel
theorem dX4_grow_1 : decode cX4_grow 1 = .ok (.getfield 9, 3) := by decide +kernel
theorem dX4_grow_4 : decode cX4_grow 4 = .ok (.arraylength, 1) := by decide +kernel
theorem dX4_grow_5 : decode cX4_grow 5 = .ok (.iconst 2, 1) := by decide +kernel
theorem dX4_grow_6 : decode cX4_grow 6 = .ok (.imul, 1) := by decide +kernel
theorem dX4_grow_7 : decode cX4_grow 7 = .ok (.istore_n 1, 1) := by decide +kernel
theorem dX4_grow_8 : decode cX4_grow 8 = .ok (.iload_n 1, 1) := by decide +kernel
theorem dX4_grow_9 : decode cX4_grow 9 = .ok (.aload_n 0, 1) := by decide +kernel
theorem dX4_grow_10 : decode cX4_grow 10 = .ok (.getfield 9, 3) := by decide +kernel
theorem dX4_grow_13 : decode cX4_grow 13 = .ok (.arraylength, 1) := by decide +kernel
theorem dX4_grow_14 : decode cX4_grow 14 = .ok (.if_icmp .le 9, 3) := by decide +kernel
theorem dX4_grow_17 : decode cX4_grow 17 = .ok (.iload_n 1, 1) := by decide +kernel
theorem dX4_grow_18 : decode cX4_grow 18 = .ok (.ldc 38, 2) := by decide +kernel
theorem dX4_grow_20 : decode cX4_grow 20 = .ok (.if_icmp .le 4, 3) := by decide +kernel
theorem dX4_grow_23 : decode cX4_grow 23 = .ok (.return_, 1) := by decide +kernel
theorem dX4_grow_24 : decode cX4_grow 24 = .ok (.iload_n 1, 1) := by decide +kernel
theorem dX4_grow_25 : decode cX4_grow 25 = .ok (.newarray .char, 2) := by decide +kernel
theorem dX4_grow_27 : decode cX4_grow 27 = .ok (.astore_n 2, 1) := by decide +kernel
theorem dX4_grow_28 : decode cX4_grow 28 = .ok (.iconst 0, 1) := by decide +kernel
theorem dX4_grow_29 : decode cX4_grow 29 = .ok (.istore_n 3, 1) := by decide +kernel
theorem dX4_grow_30 : decode cX4_grow 30 = .ok (.iload_n 3, 1) := by decide +kernel
theorem dX4_grow_31 : decode cX4_grow 31 = .ok (.aload_n 0, 1) := by decide +kernel
theorem dX4_grow_32 : decode cX4_grow 32 = .ok (.getfield 9, 3) := by decide +kernel
theorem dX4_grow_35 : decode cX4_grow 35 = .ok (.arraylength, 1) := by decide +kernel
theorem dX4_grow_36 : decode cX4_grow 36 = .ok (.if_icmp .ge 24, 3) := by decide +kernel
theorem dX4_grow_39 : decode cX4_grow 39 = .ok (.iload_n 3, 1) := by decide +kernel
theorem dX4_grow_40 : decode cX4_grow 40 = .ok (.aload_n 2, 1) := by decide +kernel
theorem dX4_grow_41 : decode cX4_grow 41 = .ok (.arraylength, 1) := by decide +kernel
theorem dX4_grow_42 : decode cX4_grow 42 = .ok (.if_icmp .ge 18, 3) := by decide +kernel
theorem dX4_grow_45 : decode cX4_grow 45 = .ok (.aload_n 2, 1) := by decide +kernel
theorem dX4_grow_46 : decode cX4_grow 46 = .ok (.iload_n 3, 1) := by decide +kernel
theorem dX4_grow_47 : decode cX4_grow 47 = .ok (.aload_n 0, 1) := by decide +kernel
theorem dX4_grow_48 : decode cX4_grow 48 = .ok (.getfield 9, 3) := by decide +kernel
theorem dX4_grow_51 : decode cX4_grow 51 = .ok (.iload_n 3, 1) := by decide +kernel
theorem dX4_grow_52 : decode cX4_grow 52 = .ok (.caload, 1) := by decide +kernel
theorem dX4_grow_53 : decode cX4_grow 53 = .ok (.castore, 1) := by decide +kernel
theorem dX4_grow_54 : decode cX4_grow 54 = .ok (.iinc 3 1, 3) := by decide +kernel
theorem dX4_grow_57 : decode cX4_grow 57 = .ok (.goto (-27), 3) := by decide +kernel
theorem dX4_grow_60 : decode cX4_grow 60 = .ok (.aload_n 0, 1) := by decide +kernel
theorem dX4_grow_61 : decode cX4_grow 61 = .ok (.aload_n 2, 1) := by decide +kernel
theorem dX4_grow_62 : decode cX4_grow 62 = .ok (.putfield 9, 3) := by decide +kernel
theorem dX4_grow_65 : decode cX4_grow 65 = .ok (.return_, 1) := by decide +kernel
theorem dX5_init_0 : decode cX5_init 0 = .ok (.aload_n 0, 1) := by decide +kernel
theorem dX5_init_1 : decode cX5_init 1 = .ok (.invokespecial 1, 3) := by decide +kernel
theorem dX5_init_4 : decode cX5_init 4 = .ok (.aload_n 0, 1) := by decide +kernel
theorem dX5_init_5 : decode cX5_init 5 = .ok (.new 7, 3) := by decide +kernel
theorem dX5_init_8 : decode cX5_init 8 = .ok (.dup, 1) := by decide +kernel
theorem dX5_init_9 : decode cX5_init 9 = .ok (.iconst 1, 1) := by decide +kernel
theorem dX5_init_10 : decode cX5_init 10 = .ok (.invokespecial 9, 3) := by decide +kernel
theorem dX5_init_13 : decode cX5_init 13 = .ok (.putfield 12, 3) := by decide +kernel
theorem dX5_init_16 : decode cX5_init 16 = .ok (.aload_n 0, 1) := by decide +kernel
theorem dX5_init_17 : decode cX5_init 17 = .ok (.new 7, 3) := by decide +kernel
theorem dX5_init_20 : decode cX5_init 20 = .ok (.dup, 1) := by decide +kernel
theorem dX5_init_21 : decode cX5_init 21 = .ok (.iconst 0, 1) := by decide +kernel
theorem dX5_init_22 : decode cX5_init 22 = .ok (.invokespecial 9, 3) := by decide +kernel
theorem dX5_init_25 : decode cX5_init 25 = .ok (.putfield 18, 3) := by decide +kernel
theorem dX5_init_28 : decode cX5_init 28 = .ok (.return_, 1) := by decide +kernel
theorem dX5_addStation_0 : decode cX5_addStation 0 = .ok (.iload_n 1, 1) := by decide +kernel
theorem dX5_addStation_1 : decode cX5_addStation 1 = .ok (.iconst 1, 1) := by decide +kernel
theorem dX5_addStation_2 : decode cX5_addStation 2 = .ok (.bipush 9, 2) := by decide +kernel
theorem dX5_addStation_4 : decode cX5_addStation 4 = .ok (.invokestatic 21, 3) := by decide +kernel
theorem dX5_addStation_7 : decode cX5_addStation 7 = .ok (.ifCond .eq 12, 3) := by decide +kernel
theorem dX5_addStation_10 : decode cX5_addStation 10 = .ok (.iload_n 2, 1) := by decide +kernel
theorem dX5_addStation_11 : decode cX5_addStation 11 = .ok (.iconst (-1), 1) := by decide +kernel
theorem dX5_addStation_12 : decode cX5_addStation 12 = .ok (.iconst 5, 1) := by decide +kernel
theorem dX5_addStation_13 : decode cX5_addStation 13 = .ok (.invokestatic 21, 3) := by decide +kernel
theorem dX5_addStation_16 : decode cX5_addStation 16 = .ok (.ifCond .ne 13, 3) := by decide +kernel
theorem dX5_addStation_19 : decode cX5_addStation 19 = .ok (.new 25, 3) := by decide +kernel
theorem dX5_addStation_22 : decode cX5_addStation 22 = .ok (.dup, 1) := by decide +kernel
theorem dX5_addStation_23 : decode cX5_addStation 23 = .ok (.ldc 27, 2) := by decide +kernel
theorem dX5_addStation_25 : decode cX5_addStation 25 = .ok (.invokespecial 29, 3) := by decide +kernel
theorem dX5_addStation_28 : decode cX5_addStation 28 = .ok (.athrow, 1) := by decide +kernel
theorem dX5_addStation_29 : decode cX5_addStation 29 = .ok (.iload_n 2, 1) := by decide +kernel
theorem dX5_addStation_30 : decode cX5_addStation 30 = .ok (.iconst (-1), 1) := by decide +kernel
theorem dX5_addStation_31 : decode cX5_addStation 31 = .ok (.if_icmp .eq 33, 3) := by decide +kernel
theorem dX5_addStation_34 : decode cX5_addStation 34 = .ok (.iload_n 3, 1) := by decide +kernel
theorem dX5_addStation_35 : decode cX5_addStation 35 = .ok (.iconst 1, 1) := by decide +kernel
theorem dX5_addStation_36 : decode cX5_addStation 36 = .ok (.iconst 4, 1) := by decide +kernel
theorem dX5_addStation_37 : decode cX5_addStation 37 = .ok (.invokestatic 21, 3) := by decide +kernel
theorem dX5_addStation_40 : decode cX5_addStation 40 = .ok (.ifCond .eq 14, 3) := by decide +kernel
theorem dX5_addStation_43 : decode cX5_addStation 43 = .ok (.iload 4, 2) := by decide +kernel
theorem dX5_addStation_45 : decode cX5_addStation 45 = .ok (.iconst 4, 1) := by decide +kernel
theorem dX5_addStation_46 : decode cX5_addStation 46 = .ok (.bipush 30, 2) := by decide +kernel
theorem dX5_addStation_48 : decode cX5_addStation 48 = .ok (.invokestatic 21, 3) := by decide +kernel
theorem dX5_addStation_51 : decode cX5_addStation 51 = .ok (.ifCond .ne 13, 3) := by decide +kernel
theorem dX5_addStation_54 : decode cX5_addStation 54 = .ok (.new 25, 3) := by decide +kernel
theorem dX5_addStation_57 : decode cX5_addStation 57 = .ok (.dup, 1) := by decide +kernel
theorem dX5_addStation_58 : decode cX5_addStation 58 = .ok (.ldc 32, 2) := by decide +kernel
theorem dX5_addStation_60 : decode cX5_addStation 60 = .ok (.invokespecial 29, 3) := by decide +kernel
theorem dX5_addStation_63 : decode cX5_addStation 63 = .ok (.athrow, 1) := by decide +kernel
theorem dX5_addStation_64 : decode cX5_addStation 64 = .ok (.aload_n 0, 1) := by decide +kernel
theorem dX5_addStation_65 : decode cX5_addStation 65 = .ok (.getfield 12, 3) := by decide +kernel
theorem dX5_addStation_68 : decode cX5_addStation 68 = .ok (.getfield 34, 3) := by decide +kernel
theorem dX5_addStation_71 : decode cX5_addStation 71 = .ok (.bipush 8, 2) := by decide +kernel
theorem dX5_addStation_73 : decode cX5_addStation 73 = .ok (.if_icmp .ge 13, 3) := by decide +kernel
theorem dX5_addStation_76 : decode cX5_addStation 76 = .ok (.aload_n 0, 1) := by decide +kernel
theorem dX5_addStation_77 : decode cX5_addStation 77 = .ok (.getfield 12, 3) := by decide +kernel
theorem dX5_addStation_80 : decode cX5_addStation 80 = .ok (.getfield 38, 3) := by decide +kernel
theorem dX5_addStation_83 : decode cX5_addStation 83 = .ok (.ifCond .le 13, 3) := by decide +kernel
theorem dX5_addStation_86 : decode cX5_addStation 86 = .ok (.new 41, 3) := by decide +kernel
theorem dX5_addStation_89 : decode cX5_addStation 89 = .ok (.dup, 1) := by decide +kernel
theorem dX5_addStation_90 : decode cX5_addStation 90 = .ok (.ldc 43, 2) := by decide +kernel
theorem dX5_addStation_92 : decode cX5_addStation 92 = .ok (.invokespecial 45, 3) := by decide +kernel
theorem dX5_addStation_95 : decode cX5_addStation 95 = .ok (.athrow, 1) := by decide +kernel
theorem dX5_addStation_96 : decode cX5_addStation 96 = .ok (.aload_n 0, 1) := by decide +kernel
theorem dX5_addStation_97 : decode cX5_addStation 97 = .ok (.getfield 12, 3) := by decide +kernel
theorem dX5_addStation_100 : decode cX5_addStation 100 = .ok (.iload_n 1, 1) := by decide +kernel
theorem dX5_addStation_101 : decode cX5_addStation 101 = .ok (.iload_n 2, 1) := by decide +kernel
theorem dX5_addStation_102 : decode cX5_addStation 102 = .ok (.iload_n 3, 1) := by decide +kernel
theorem dX5_addStation_103 : decode cX5_addStation 103 = .ok (.iload 4, 2) := by decide +kernel
theorem dX5_addStation_105 : decode cX5_addStation 105 = .ok (.invokevirtual 46, 3) := by decide +kernel
theorem dX5_addStation_108 : decode cX5_addStation 108 = .ok (.ireturn, 1) := by decide +kernel
theorem dX5_supply_0 : decode cX5_supply 0 = .ok (.iload_n 1, 1) := by decide +kernel
theorem dX5_supply_1 : decode cX5_supply 1 = .ok (.invokestatic 50, 3) := by decide +kernel
theorem dX5_supply_4 : decode cX5_supply 4 = .ok (.iload_n 2, 1) := by decide +kernel
theorem dX5_supply_5 : decode cX5_supply 5 = .ok (.iconst 1, 1) := by decide +kernel
theorem dX5_supply_6 : decode cX5_supply 6 = .ok (.bipush 99, 2) := by decide +kernel
theorem dX5_supply_8 : decode cX5_supply 8 = .ok (.invokestatic 21, 3) := by decide +kernel
theorem dX5_supply_11 : decode cX5_supply 11 = .ok (.ifCond .ne 13, 3) := by decide +kernel
theorem dX5_supply_14 : decode cX5_supply 14 = .ok (.new 25, 3) := by decide +kernel
theorem dX5_supply_17 : decode cX5_supply 17 = .ok (.dup, 1) := by decide +kernel
theorem dX5_supply_18 : decode cX5_supply 18 = .ok (.ldc 54, 2) := by decide +kernel
theorem dX5_supply_20 : decode cX5_supply 20 = .ok (.invokespecial 29, 3) := by decide +kernel
theorem dX5_supply_23 : decode cX5_supply 23 = .ok (.athrow, 1) := by decide +kernel
theorem dX5_supply_24 : decode cX5_supply 24 = .ok (.aload_n 0, 1) := by decide +kernel
theorem dX5_supply_25 : decode cX5_supply 25 = .ok (.getfield 12, 3) := by decide +kernel
theorem dX5_supply_28 : decode cX5_supply 28 = .ok (.iload_n 1, 1) := by decide +kernel
theorem dX5_supply_29 : decode cX5_supply 29 = .ok (.invokevirtual 56, 3) := by decide +kernel
theorem dX5_supply_32 : decode cX5_supply 32 = .ok (.iload_n 2, 1) := by decide +kernel
theorem dX5_supply_33 : decode cX5_supply 33 = .ok (.iadd, 1) := by decide +kernel
theorem dX5_supply_34 : decode cX5_supply 34 = .ok (.sipush 999, 3) := by decide +kernel
theorem dX5_supply_37 : decode cX5_supply 37 = .ok (.if_icmp .le 13, 3) := by decide +kernel
theorem dX5_supply_40 : decode cX5_supply 40 = .ok (.new 41, 3) := by decide +kernel
theorem dX5_supply_43 : decode cX5_supply 43 = .ok (.dup, 1) := by decide +kernel
theorem dX5_supply_44 : decode cX5_supply 44 = .ok (.ldc 60, 2) := by decide +kernel
theorem dX5_supply_46 : decode cX5_supply 46 = .ok (.invokespecial 45, 3) := by decide +kernel
theorem dX5_supply_49 : decode cX5_supply 49 = .ok (.athrow, 1) := by decide +kernel
theorem dX5_supply_50 : decode cX5_supply 50 = .ok (.aload_n 0, 1) := by decide +kernel
theorem dX5_supply_51 : decode cX5_supply 51 = .ok (.getfield 12, 3) := by decide +kernel
theorem dX5_supply_54 : decode cX5_supply 54 = .ok (.iload_n 1, 1) := by decide +kernel
theorem dX5_supply_55 : decode cX5_supply 55 = .ok (.iload_n 2, 1) := by decide +kernel
theorem dX5_supply_56 : decode cX5_supply 56 = .ok (.invokevirtual 62, 3) := by decide +kernel
theorem dX5_supply_59 : decode cX5_supply 59 = .ok (.aload_n 0, 1) := by decide +kernel
theorem dX5_supply_60 : decode cX5_supply 60 = .ok (.getfield 12, 3) := by decide +kernel
theorem dX5_supply_63 : decode cX5_supply 63 = .ok (.iload_n 1, 1) := by decide +kernel
theorem dX5_supply_64 : decode cX5_supply 64 = .ok (.invokevirtual 56, 3) := by decide +kernel
theorem dX5_supply_67 : decode cX5_supply 67 = .ok (.ireturn, 1) := by decide +kernel
theorem dX5_setPeriod_0 : decode cX5_setPeriod 0 = .ok (.iload_n 1, 1) := by decide +kernel
theorem dX5_setPeriod_1 : decode cX5_setPeriod 1 = .ok (.iconst 1, 1) := by decide +kernel
theorem dX5_setPeriod_2 : decode cX5_setPeriod 2 = .ok (.bipush 60, 2) := by decide +kernel
theorem dX5_setPeriod_4 : decode cX5_setPeriod 4 = .ok (.invokestatic 21, 3) := by decide +kernel
theorem dX5_setPeriod_7 : decode cX5_setPeriod 7 = .ok (.ifCond .ne 13, 3) := by decide +kernel
theorem dX5_setPeriod_10 : decode cX5_setPeriod 10 = .ok (.new 25, 3) := by decide +kernel
theorem dX5_setPeriod_13 : decode cX5_setPeriod 13 = .ok (.dup, 1) := by decide +kernel
theorem dX5_setPeriod_14 : decode cX5_setPeriod 14 = .ok (.ldc 66, 2) := by decide +kernel
theorem dX5_setPeriod_16 : decode cX5_setPeriod 16 = .ok (.invokespecial 29, 3) := by decide +kernel
theorem dX5_setPeriod_19 : decode cX5_setPeriod 19 = .ok (.athrow, 1) := by decide +kernel
theorem dX5_setPeriod_20 : decode cX5_setPeriod 20 = .ok (.aload_n 0, 1) := by decide +kernel
theorem dX5_setPeriod_21 : decode cX5_setPeriod 21 = .ok (.getfield 12, 3) := by decide +kernel
theorem dX5_setPeriod_24 : decode cX5_setPeriod 24 = .ok (.getfield 68, 3) := by decide +kernel
theorem dX5_setPeriod_27 : decode cX5_setPeriod 27 = .ok (.istore_n 2, 1) := by decide +kernel
theorem dX5_setPeriod_28 : decode cX5_setPeriod 28 = .ok (.aload_n 0, 1) := by decide +kernel
theorem dX5_setPeriod_29 : decode cX5_setPeriod 29 = .ok (.getfield 12, 3) := by decide +kernel
theorem dX5_setPeriod_32 : decode cX5_setPeriod 32 = .ok (.iload_n 1, 1) := by decide +kernel
theorem dX5_setPeriod_33 : decode cX5_setPeriod 33 = .ok (.putfield 68, 3) := by decide +kernel
theorem dX5_setPeriod_36 : decode cX5_setPeriod 36 = .ok (.iload_n 2, 1) := by decide +kernel
theorem dX5_setPeriod_37 : decode cX5_setPeriod 37 = .ok (.ireturn, 1) := by decide +kernel
theorem dX5_addCar_0 : decode cX5_addCar 0 = .ok (.iload_n 1, 1) := by decide +kernel
theorem dX5_addCar_1 : decode cX5_addCar 1 = .ok (.iconst 0, 1) := by decide +kernel
theorem dX5_addCar_2 : decode cX5_addCar 2 = .ok (.bipush 63, 2) := by decide +kernel
theorem dX5_addCar_4 : decode cX5_addCar 4 = .ok (.invokestatic 21, 3) := by decide +kernel
theorem dX5_addCar_7 : decode cX5_addCar 7 = .ok (.ifCond .ne 13, 3) := by decide +kernel
theorem dX5_addCar_10 : decode cX5_addCar 10 = .ok (.new 25, 3) := by decide +kernel
theorem dX5_addCar_13 : decode cX5_addCar 13 = .ok (.dup, 1) := by decide +kernel
theorem dX5_addCar_14 : decode cX5_addCar 14 = .ok (.ldc 71, 2) := by decide +kernel
theorem dX5_addCar_16 : decode cX5_addCar 16 = .ok (.invokespecial 29, 3) := by decide +kernel
theorem dX5_addCar_19 : decode cX5_addCar 19 = .ok (.athrow, 1) := by decide +kernel
theorem dX5_addCar_20 : decode cX5_addCar 20 = .ok (.aload_n 0, 1) := by decide +kernel
theorem dX5_addCar_21 : decode cX5_addCar 21 = .ok (.getfield 12, 3) := by decide +kernel
theorem dX5_addCar_24 : decode cX5_addCar 24 = .ok (.getfield 73, 3) := by decide +kernel
theorem dX5_addCar_27 : decode cX5_addCar 27 = .ok (.bipush 30, 2) := by decide +kernel
theorem dX5_addCar_29 : decode cX5_addCar 29 = .ok (.if_icmp .ge 13, 3) := by decide +kernel
theorem dX5_addCar_32 : decode cX5_addCar 32 = .ok (.aload_n 0, 1) := by decide +kernel
theorem dX5_addCar_33 : decode cX5_addCar 33 = .ok (.getfield 12, 3) := by decide +kernel
theorem dX5_addCar_36 : decode cX5_addCar 36 = .ok (.getfield 34, 3) := by decide +kernel
theorem dX5_addCar_39 : decode cX5_addCar 39 = .ok (.ifCond .ne 13, 3) := by decide +kernel
theorem dX5_addCar_42 : decode cX5_addCar 42 = .ok (.new 41, 3) := by decide +kernel
theorem dX5_addCar_45 : decode cX5_addCar 45 = .ok (.dup, 1) := by decide +kernel
theorem dX5_addCar_46 : decode cX5_addCar 46 = .ok (.ldc 76, 2) := by decide +kernel
theorem dX5_addCar_48 : decode cX5_addCar 48 = .ok (.invokespecial 45, 3) := by decide +kernel
theorem dX5_addCar_51 : decode cX5_addCar 51 = .ok (.athrow, 1) := by decide +kernel
theorem dX5_addCar_52 : decode cX5_addCar 52 = .ok (.aload_n 0, 1) := by decide +kernel
theorem dX5_addCar_53 : decode cX5_addCar 53 = .ok (.getfield 12, 3) := by decide +kernel
theorem dX5_addCar_56 : decode cX5_addCar 56 = .ok (.iload_n 1, 1) := by decide +kernel
theorem dX5_addCar_57 : decode cX5_addCar 57 = .ok (.invokevirtual 78, 3) := by decide +kernel
theorem dX5_addCar_60 : decode cX5_addCar 60 = .ok (.ireturn, 1) := by decide +kernel
theorem dX5_swap_0 : decode cX5_swap 0 = .ok (.aload_n 0, 1) := by decide +kernel
theorem dX5_swap_1 : decode cX5_swap 1 = .ok (.iload_n 1, 1) := by decide +kernel
theorem dX5_swap_2 : decode cX5_swap 2 = .ok (.invokevirtual 81, 3) := by decide +kernel
theorem dX5_swap_5 : decode cX5_swap 5 = .ok (.astore_n 3, 1) := by decide +kernel
theorem dX5_swap_6 : decode cX5_swap 6 = .ok (.aload_n 0, 1) := by decide +kernel
theorem dX5_swap_7 : decode cX5_swap 7 = .ok (.iload_n 2, 1) := by decide +kernel
theorem dX5_swap_8 : decode cX5_swap 8 = .ok (.invokevirtual 81, 3) := by decide +kernel
theorem dX5_swap_11 : decode cX5_swap 11 = .ok (.astore 4, 2) := by decide +kernel
theorem dX5_swap_13 : decode cX5_swap 13 = .ok (.iload_n 1, 1) := by decide +kernel
theorem dX5_swap_14 : decode cX5_swap 14 = .ok (.iload_n 2, 1) := by decide +kernel
theorem dX5_swap_15 : decode cX5_swap 15 = .ok (.if_icmp .ne 13, 3) := by decide +kernel
theorem dX5_swap_18 : decode cX5_swap 18 = .ok (.new 25, 3) := by decide +kernel
theorem dX5_swap_21 : decode cX5_swap 21 = .ok (.dup, 1) := by decide +kernel
theorem dX5_swap_22 : decode cX5_swap 22 = .ok (.ldc 85, 2) := by decide +kernel
theorem dX5_swap_24 : decode cX5_swap 24 = .ok (.invokespecial 29, 3) := by decide +kernel
theorem dX5_swap_27 : decode cX5_swap 27 = .ok (.athrow, 1) := by decide +kernel
theorem dX5_swap_28 : decode cX5_swap 28 = .ok (.aload_n 3, 1) := by decide +kernel
theorem dX5_swap_29 : decode cX5_swap 29 = .ok (.getfield 87, 3) := by decide +kernel
theorem dX5_swap_32 : decode cX5_swap 32 = .ok (.bipush 119, 2) := by decide +kernel
theorem dX5_swap_34 : decode cX5_swap 34 = .ok (.if_icmp .ne 13, 3) := by decide +kernel
theorem dX5_swap_37 : decode cX5_swap 37 = .ok (.aload 4, 2) := by decide +kernel
theorem dX5_swap_39 : decode cX5_swap 39 = .ok (.getfield 87, 3) := by decide +kernel
theorem dX5_swap_42 : decode cX5_swap 42 = .ok (.bipush 119, 2) := by decide +kernel
theorem dX5_swap_44 : decode cX5_swap 44 = .ok (.if_icmp .eq 13, 3) := by decide +kernel
theorem dX5_swap_47 : decode cX5_swap 47 = .ok (.new 41, 3) := by decide +kernel
theorem dX5_swap_50 : decode cX5_swap 50 = .ok (.dup, 1) := by decide +kernel
theorem dX5_swap_51 : decode cX5_swap 51 = .ok (.ldc 93, 2) := by decide +kernel
theorem dX5_swap_53 : decode cX5_swap 53 = .ok (.invokespecial 45, 3) := by decide +kernel
theorem dX5_swap_56 : decode cX5_swap 56 = .ok (.athrow, 1) := by decide +kernel
theorem dX5_swap_57 : decode cX5_swap 57 = .ok (.aload_n 0, 1) := by decide +kernel
theorem dX5_swap_58 : decode cX5_swap 58 = .ok (.getfield 12, 3) := by decide +kernel
theorem dX5_swap_61 : decode cX5_swap 61 = .ok (.getfield 95, 3) := by decide +kernel
theorem dX5_swap_64 : decode cX5_swap 64 = .ok (.iload_n 2, 1) := by decide +kernel
theorem dX5_swap_65 : decode cX5_swap 65 = .ok (.invokevirtual 99, 3) := by decide +kernel
theorem dX5_swap_68 : decode cX5_swap 68 = .ok (.istore 5, 2) := by decide +kernel
theorem dX5_swap_70 : decode cX5_swap 70 = .ok (.aload_n 0, 1) := by decide +kernel
theorem dX5_swap_71 : decode cX5_swap 71 = .ok (.getfield 12, 3) := by decide +kernel
theorem dX5_swap_74 : decode cX5_swap 74 = .ok (.getfield 95, 3) := by decide +kernel
theorem dX5_swap_77 : decode cX5_swap 77 = .ok (.aload_n 0, 1) := by decide +kernel
theorem dX5_swap_78 : decode cX5_swap 78 = .ok (.getfield 12, 3) := by decide +kernel
theorem dX5_swap_81 : decode cX5_swap 81 = .ok (.getfield 95, 3) := by decide +kernel
theorem dX5_swap_84 : decode cX5_swap 84 = .ok (.iload_n 1, 1) := by decide +kernel
theorem dX5_swap_85 : decode cX5_swap 85 = .ok (.invokevirtual 99, 3) := by decide +kernel
theorem dX5_swap_88 : decode cX5_swap 88 = .ok (.iload 5, 2) := by decide +kernel
theorem dX5_swap_90 : decode cX5_swap 90 = .ok (.invokevirtual 104, 3) := by decide +kernel
theorem dX5_swap_93 : decode cX5_swap 93 = .ok (.iload 5, 2) := by decide +kernel
theorem dX5_swap_95 : decode cX5_swap 95 = .ok (.ireturn, 1) := by decide +kernel
theorem dX5_fault_0 : decode cX5_fault 0 = .ok (.aload_n 0, 1) := by decide +kernel
theorem dX5_fault_1 : decode cX5_fault 1 = .ok (.iload_n 1, 1) := by decide +kernel
theorem dX5_fault_2 : decode cX5_fault 2 = .ok (.invokevirtual 81, 3) := by decide +kernel
theorem dX5_fault_5 : decode cX5_fault 5 = .ok (.astore_n 3, 1) := by decide +kernel
theorem dX5_fault_6 : decode cX5_fault 6 = .ok (.aload_n 0, 1) := by decide +kernel
theorem dX5_fault_7 : decode cX5_fault 7 = .ok (.iload_n 2, 1) := by decide +kernel
theorem dX5_fault_8 : decode cX5_fault 8 = .ok (.invokevirtual 107, 3) := by decide +kernel
theorem dX5_fault_11 : decode cX5_fault 11 = .ok (.pop, 1) := by decide +kernel
theorem dX5_fault_12 : decode cX5_fault 12 = .ok (.aload_n 3, 1) := by decide +kernel
theorem dX5_fault_13 : decode cX5_fault 13 = .ok (.iload_n 2, 1) := by decide +kernel
theorem dX5_fault_14 : decode cX5_fault 14 = .ok (.invokevirtual 111, 3) := by decide +kernel
theorem dX5_fault_17 : decode cX5_fault 17 = .ok (.ifCond .eq 20, 3) := by decide +kernel
theorem dX5_fault_20 : decode cX5_fault 20 = .ok (.aload_n 3, 1) := by decide +kernel
theorem dX5_fault_21 : decode cX5_fault 21 = .ok (.getfield 115, 3) := by decide +kernel
theorem dX5_fault_24 : decode cX5_fault 24 = .ok (.iload_n 2, 1) := by decide +kernel
theorem dX5_fault_25 : decode cX5_fault 25 = .ok (.if_icmp .eq 12, 3) := by decide +kernel
theorem dX5_fault_28 : decode cX5_fault 28 = .ok (.aload_n 3, 1) := by decide +kernel
theorem dX5_fault_29 : decode cX5_fault 29 = .ok (.getfield 87, 3) := by decide +kernel
theorem dX5_fault_32 : decode cX5_fault 32 = .ok (.bipush 100, 2) := by decide +kernel
theorem dX5_fault_34 : decode cX5_fault 34 = .ok (.if_icmp .ne 13, 3) := by decide +kernel
theorem dX5_fault_37 : decode cX5_fault 37 = .ok (.new 41, 3) := by decide +kernel
theorem dX5_fault_40 : decode cX5_fault 40 = .ok (.dup, 1) := by decide +kernel
theorem dX5_fault_41 : decode cX5_fault 41 = .ok (.ldc 118, 2) := by decide +kernel
theorem dX5_fault_43 : decode cX5_fault 43 = .ok (.invokespecial 45, 3) := by decide +kernel
theorem dX5_fault_46 : decode cX5_fault 46 = .ok (.athrow, 1) := by decide +kernel
theorem dX5_fault_47 : decode cX5_fault 47 = .ok (.aload_n 3, 1) := by decide +kernel
theorem dX5_fault_48 : decode cX5_fault 48 = .ok (.iload_n 2, 1) := by decide +kernel
theorem dX5_fault_49 : decode cX5_fault 49 = .ok (.invokevirtual 120, 3) := by decide +kernel
theorem dX5_fault_52 : decode cX5_fault 52 = .ok (.ifCond .eq 13, 3) := by decide +kernel
theorem dX5_fault_55 : decode cX5_fault 55 = .ok (.new 123, 3) := by decide +kernel
theorem dX5_fault_58 : decode cX5_fault 58 = .ok (.dup, 1) := by decide +kernel
theorem dX5_fault_59 : decode cX5_fault 59 = .ok (.ldc 125, 2) := by decide +kernel
theorem dX5_fault_61 : decode cX5_fault 61 = .ok (.invokespecial 127, 3) := by decide +kernel
theorem dX5_fault_64 : decode cX5_fault 64 = .ok (.athrow, 1) := by decide +kernel
theorem dX5_fault_65 : decode cX5_fault 65 = .ok (.aload_n 3, 1) := by decide +kernel
theorem dX5_fault_66 : decode cX5_fault 66 = .ok (.iload_n 2, 1) := by decide +kernel
theorem dX5_fault_67 : decode cX5_fault 67 = .ok (.invokevirtual 128, 3) := by decide +kernel
theorem dX5_fault_70 : decode cX5_fault 70 = .ok (.aload_n 3, 1) := by decide +kernel
theorem dX5_fault_71 : decode cX5_fault 71 = .ok (.invokevirtual 131, 3) := by decide +kernel
theorem dX5_fault_74 : decode cX5_fault 74 = .ok (.ireturn, 1) := by decide +kernel
theorem dX5_tick_0 : decode cX5_tick 0 = .ok (.iload_n 1, 1) := by decide +kernel
theorem dX5_tick_1 : decode cX5_tick 1 = .ok (.iconst 1, 1) := by decide +kernel
theorem dX5_tick_2 : decode cX5_tick 2 = .ok (.bipush 60, 2) := by decide +kernel
theorem dX5_tick_4 : decode cX5_tick 4 = .ok (.invokestatic 21, 3) := by decide +kernel
theorem dX5_tick_7 : decode cX5_tick 7 = .ok (.ifCond .ne 13, 3) := by decide +kernel
theorem dX5_tick_10 : decode cX5_tick 10 = .ok (.new 25, 3) := by decide +kernel
theorem dX5_tick_13 : decode cX5_tick 13 = .ok (.dup, 1) := by decide +kernel
theorem dX5_tick_14 : decode cX5_tick 14 = .ok (.ldc 135, 2) := by decide +kernel
theorem dX5_tick_16 : decode cX5_tick 16 = .ok (.invokespecial 29, 3) := by decide +kernel
theorem dX5_tick_19 : decode cX5_tick 19 = .ok (.athrow, 1) := by decide +kernel
theorem dX5_tick_20 : decode cX5_tick 20 = .ok (.aload_n 0, 1) := by decide +kernel
theorem dX5_tick_21 : decode cX5_tick 21 = .ok (.getfield 12, 3) := by decide +kernel
theorem dX5_tick_24 : decode cX5_tick 24 = .ok (.getfield 34, 3) := by decide +kernel
theorem dX5_tick_27 : decode cX5_tick 27 = .ok (.ifCond .eq 18, 3) := by decide +kernel
theorem dX5_tick_30 : decode cX5_tick 30 = .ok (.aload_n 0, 1) := by decide +kernel
theorem dX5_tick_31 : decode cX5_tick 31 = .ok (.getfield 12, 3) := by decide +kernel
theorem dX5_tick_34 : decode cX5_tick 34 = .ok (.getfield 38, 3) := by decide +kernel
theorem dX5_tick_37 : decode cX5_tick 37 = .ok (.iload_n 1, 1) := by decide +kernel
theorem dX5_tick_38 : decode cX5_tick 38 = .ok (.iadd, 1) := by decide +kernel
theorem dX5_tick_39 : decode cX5_tick 39 = .ok (.sipush 9999, 3) := by decide +kernel
theorem dX5_tick_42 : decode cX5_tick 42 = .ok (.if_icmp .le 13, 3) := by decide +kernel
theorem dX5_tick_45 : decode cX5_tick 45 = .ok (.new 41, 3) := by decide +kernel
theorem dX5_tick_48 : decode cX5_tick 48 = .ok (.dup, 1) := by decide +kernel
theorem dX5_tick_49 : decode cX5_tick 49 = .ok (.ldc 137, 2) := by decide +kernel
theorem dX5_tick_51 : decode cX5_tick 51 = .ok (.invokespecial 45, 3) := by decide +kernel
theorem dX5_tick_54 : decode cX5_tick 54 = .ok (.athrow, 1) := by decide +kernel
theorem dX5_tick_55 : decode cX5_tick 55 = .ok (.aload_n 0, 1) := by decide +kernel
theorem dX5_tick_56 : decode cX5_tick 56 = .ok (.getfield 12, 3) := by decide +kernel
theorem dX5_tick_59 : decode cX5_tick 59 = .ok (.getfield 139, 3) := by decide +kernel
theorem dX5_tick_62 : decode cX5_tick 62 = .ok (.getfield 142, 3) := by decide +kernel
theorem dX5_tick_65 : decode cX5_tick 65 = .ok (.istore_n 2, 1) := by decide +kernel
theorem dX5_tick_66 : decode cX5_tick 66 = .ok (.iconst 0, 1) := by decide +kernel
theorem dX5_tick_67 : decode cX5_tick 67 = .ok (.istore_n 3, 1) := by decide +kernel
theorem dX5_tick_68 : decode cX5_tick 68 = .ok (.iload_n 3, 1) := by decide +kernel
theorem dX5_tick_69 : decode cX5_tick 69 = .ok (.iload_n 1, 1) := by decide +kernel
theorem dX5_tick_70 : decode cX5_tick 70 = .ok (.if_icmp .ge 16, 3) := by decide +kernel
theorem dX5_tick_73 : decode cX5_tick 73 = .ok (.aload_n 0, 1) := by decide +kernel
theorem dX5_tick_74 : decode cX5_tick 74 = .ok (.getfield 12, 3) := by decide +kernel
theorem dX5_tick_77 : decode cX5_tick 77 = .ok (.invokevirtual 145, 3) := by decide +kernel
theorem dX5_tick_80 : decode cX5_tick 80 = .ok (.iinc 3 1, 3) := by decide +kernel
theorem dX5_tick_83 : decode cX5_tick 83 = .ok (.goto (-15), 3) := by decide +kernel
theorem dX5_tick_86 : decode cX5_tick 86 = .ok (.aload_n 0, 1) := by decide +kernel
theorem dX5_tick_87 : decode cX5_tick 87 = .ok (.getfield 12, 3) := by decide +kernel
theorem dX5_tick_90 : decode cX5_tick 90 = .ok (.getfield 139, 3) := by decide +kernel
theorem dX5_tick_93 : decode cX5_tick 93 = .ok (.getfield 142, 3) := by decide +kernel
theorem dX5_tick_96 : decode cX5_tick 96 = .ok (.iload_n 2, 1) := by decide +kernel
theorem dX5_tick_97 : decode cX5_tick 97 = .ok (.isub, 1) := by decide +kernel
theorem dX5_tick_98 : decode cX5_tick 98 = .ok (.ireturn, 1) := by decide +kernel
theorem dX5_now_0 : decode cX5_now 0 = .ok (.aload_n 0, 1) := by decide +kernel
theorem dX5_now_1 : decode cX5_now 1 = .ok (.getfield 12, 3) := by decide +kernel
theorem dX5_now_4 : decode cX5_now 4 = .ok (.getfield 38, 3) := by decide +kernel
theorem dX5_now_7 : decode cX5_now 7 = .ok (.ireturn, 1) := by decide +kernel
theorem dX5_stations_0 : decode cX5_stations 0 = .ok (.aload_n 0, 1) := by decide +kernel
theorem dX5_stations_1 : decode cX5_stations 1 = .ok (.getfield 12, 3) := by decide +kernel
theorem dX5_stations_4 : decode cX5_stations 4 = .ok (.getfield 34, 3) := by decide +kernel
theorem dX5_stations_7 : decode cX5_stations 7 = .ok (.ireturn, 1) := by decide +kernel
theorem dX5_cars_0 : decode cX5_cars 0 = .ok (.aload_n 0, 1) := by decide +kernel
theorem dX5_cars_1 : decode cX5_cars 1 = .ok (.getfield 12, 3) := by decide +kernel
theorem dX5_cars_4 : decode cX5_cars 4 = .ok (.getfield 73, 3) := by decide +kernel
theorem dX5_cars_7 : decode cX5_cars 7 = .ok (.ireturn, 1) := by decide +kernel
theorem dX5_stateOf_0 : decode cX5_stateOf 0 = .ok (.aload_n 0, 1) := by decide +kernel
theorem dX5_stateOf_1 : decode cX5_stateOf 1 = .ok (.iload_n 1, 1) := by decide +kernel
theorem dX5_stateOf_2 : decode cX5_stateOf 2 = .ok (.invokevirtual 81, 3) := by decide +kernel
theorem dX5_stateOf_5 : decode cX5_stateOf 5 = .ok (.getfield 87, 3) := by decide +kernel
theorem dX5_stateOf_8 : decode cX5_stateOf 8 = .ok (.ireturn, 1) := by decide +kernel
theorem dX5_stationOf_0 : decode cX5_stationOf 0 = .ok (.aload_n 0, 1) := by decide +kernel
theorem dX5_stationOf_1 : decode cX5_stationOf 1 = .ok (.iload_n 1, 1) := by decide +kernel
theorem dX5_stationOf_2 : decode cX5_stationOf 2 = .ok (.invokevirtual 148, 3) := by decide +kernel
theorem dX5_stationOf_5 : decode cX5_stationOf 5 = .ok (.getfield 115, 3) := by decide +kernel
theorem dX5_stationOf_8 : decode cX5_stationOf 8 = .ok (.ireturn, 1) := by decide +kernel
theorem dX5_toGo_0 : decode cX5_toGo 0 = .ok (.aload_n 0, 1) := by decide +kernel
theorem dX5_toGo_1 : decode cX5_toGo 1 = .ok (.iload_n 1, 1) := by decide +kernel
theorem dX5_toGo_2 : decode cX5_toGo 2 = .ok (.invokevirtual 148, 3) := by decide +kernel
theorem dX5_toGo_5 : decode cX5_toGo 5 = .ok (.getfield 151, 3) := by decide +kernel
theorem dX5_toGo_8 : decode cX5_toGo 8 = .ok (.ireturn, 1) := by decide +kernel
theorem dX5_carAt_0 : decode cX5_carAt 0 = .ok (.aload_n 0, 1) := by decide +kernel
theorem dX5_carAt_1 : decode cX5_carAt 1 = .ok (.iload_n 1, 1) := by decide +kernel
theorem dX5_carAt_2 : decode cX5_carAt 2 = .ok (.invokevirtual 107, 3) := by decide +kernel
theorem dX5_carAt_5 : decode cX5_carAt 5 = .ok (.astore_n 2, 1) := by decide +kernel
theorem dX5_carAt_6 : decode cX5_carAt 6 = .ok (.aload_n 2, 1) := by decide +kernel
theorem dX5_carAt_7 : decode cX5_carAt 7 = .ok (.getfield 154, 3) := by decide +kernel
theorem dX5_carAt_10 : decode cX5_carAt 10 = .ok (.iconst (-1), 1) := by decide +kernel
theorem dX5_carAt_11 : decode cX5_carAt 11 = .ok (.if_icmp .ne 13, 3) := by decide +kernel
theorem dX5_carAt_14 : decode cX5_carAt 14 = .ok (.new 41, 3) := by decide +kernel
theorem dX5_carAt_17 : decode cX5_carAt 17 = .ok (.dup, 1) := by decide +kernel
theorem dX5_carAt_18 : decode cX5_carAt 18 = .ok (.ldc 159, 2) := by decide +kernel
theorem dX5_carAt_20 : decode cX5_carAt 20 = .ok (.invokespecial 45, 3) := by decide +kernel
theorem dX5_carAt_23 : decode cX5_carAt 23 = .ok (.athrow, 1) := by decide +kernel
theorem dX5_carAt_24 : decode cX5_carAt 24 = .ok (.aload_n 2, 1) := by decide +kernel
theorem dX5_carAt_25 : decode cX5_carAt 25 = .ok (.getfield 154, 3) := by decide +kernel
theorem dX5_carAt_28 : decode cX5_carAt 28 = .ok (.ireturn, 1) := by decide +kernel
theorem dX5_isBack_0 : decode cX5_isBack 0 = .ok (.aload_n 0, 1) := by decide +kernel
theorem dX5_isBack_1 : decode cX5_isBack 1 = .ok (.iload_n 1, 1) := by decide +kernel
theorem dX5_isBack_2 : decode cX5_isBack 2 = .ok (.invokevirtual 81, 3) := by decide +kernel
theorem dX5_isBack_5 : decode cX5_isBack 5 = .ok (.getfield 161, 3) := by decide +kernel
theorem dX5_isBack_8 : decode cX5_isBack 8 = .ok (.ireturn, 1) := by decide +kernel
theorem dX5_waiting_0 : decode cX5_waiting 0 = .ok (.aload_n 0, 1) := by decide +kernel
theorem dX5_waiting_1 : decode cX5_waiting 1 = .ok (.getfield 12, 3) := by decide +kernel
theorem dX5_waiting_4 : decode cX5_waiting 4 = .ok (.getfield 95, 3) := by decide +kernel
theorem dX5_waiting_7 : decode cX5_waiting 7 = .ok (.getfield 142, 3) := by decide +kernel
theorem dX5_waiting_10 : decode cX5_waiting 10 = .ok (.ireturn, 1) := by decide +kernel
theorem dX5_waitingAt_0 : decode cX5_waitingAt 0 = .ok (.aload_n 0, 1) := by decide +kernel
theorem dX5_waitingAt_1 : decode cX5_waitingAt 1 = .ok (.getfield 12, 3) := by decide +kernel
theorem dX5_waitingAt_4 : decode cX5_waitingAt 4 = .ok (.getfield 95, 3) := by decide +kernel
theorem dX5_waitingAt_7 : decode cX5_waitingAt 7 = .ok (.iload_n 1, 1) := by decide +kernel
theorem dX5_waitingAt_8 : decode cX5_waitingAt 8 = .ok (.invokestatic 165, 3) := by decide +kernel
theorem dX5_waitingAt_11 : decode cX5_waitingAt 11 = .ok (.ireturn, 1) := by decide +kernel
theorem dX5_looped_0 : decode cX5_looped 0 = .ok (.aload_n 0, 1) := by decide +kernel
theorem dX5_looped_1 : decode cX5_looped 1 = .ok (.getfield 12, 3) := by decide +kernel
theorem dX5_looped_4 : decode cX5_looped 4 = .ok (.getfield 169, 3) := by decide +kernel
theorem dX5_looped_7 : decode cX5_looped 7 = .ok (.getfield 142, 3) := by decide +kernel
theorem dX5_looped_10 : decode cX5_looped 10 = .ok (.ireturn, 1) := by decide +kernel
theorem dX5_loopedAt_0 : decode cX5_loopedAt 0 = .ok (.aload_n 0, 1) := by decide +kernel
theorem dX5_loopedAt_1 : decode cX5_loopedAt 1 = .ok (.getfield 12, 3) := by decide +kernel
theorem dX5_loopedAt_4 : decode cX5_loopedAt 4 = .ok (.getfield 169, 3) := by decide +kernel
theorem dX5_loopedAt_7 : decode cX5_loopedAt 7 = .ok (.iload_n 1, 1) := by decide +kernel
theorem dX5_loopedAt_8 : decode cX5_loopedAt 8 = .ok (.invokestatic 165, 3) := by decide +kernel
theorem dX5_loopedAt_11 : decode cX5_loopedAt 11 = .ok (.ireturn, 1) := by decide +kernel
theorem dX5_left_0 : decode cX5_left 0 = .ok (.aload_n 0, 1) := by decide +kernel
theorem dX5_left_1 : decode cX5_left 1 = .ok (.getfield 12, 3) := by decide +kernel
theorem dX5_left_4 : decode cX5_left 4 = .ok (.getfield 139, 3) := by decide +kernel
theorem dX5_left_7 : decode cX5_left 7 = .ok (.getfield 142, 3) := by decide +kernel
theorem dX5_left_10 : decode cX5_left 10 = .ok (.ireturn, 1) := by decide +kernel
theorem dX5_leftAt_0 : decode cX5_leftAt 0 = .ok (.aload_n 0, 1) := by decide +kernel
theorem dX5_leftAt_1 : decode cX5_leftAt 1 = .ok (.getfield 12, 3) := by decide +kernel
theorem dX5_leftAt_4 : decode cX5_leftAt 4 = .ok (.getfield 139, 3) := by decide +kernel
theorem dX5_leftAt_7 : decode cX5_leftAt 7 = .ok (.iload_n 1, 1) := by decide +kernel
theorem dX5_leftAt_8 : decode cX5_leftAt 8 = .ok (.invokestatic 165, 3) := by decide +kernel
theorem dX5_leftAt_11 : decode cX5_leftAt 11 = .ok (.ireturn, 1) := by decide +kernel
theorem dX5_leftIn_0 : decode cX5_leftIn 0 = .ok (.aload_n 0, 1) := by decide +kernel
theorem dX5_leftIn_1 : decode cX5_leftIn 1 = .ok (.iload_n 1, 1) := by decide +kernel
theorem dX5_leftIn_2 : decode cX5_leftIn 2 = .ok (.invokevirtual 81, 3) := by decide +kernel
theorem dX5_leftIn_5 : decode cX5_leftIn 5 = .ok (.astore_n 2, 1) := by decide +kernel
theorem dX5_leftIn_6 : decode cX5_leftIn 6 = .ok (.aload_n 2, 1) := by decide +kernel
theorem dX5_leftIn_7 : decode cX5_leftIn 7 = .ok (.getfield 87, 3) := by decide +kernel
theorem dX5_leftIn_10 : decode cX5_leftIn 10 = .ok (.bipush 100, 2) := by decide +kernel
theorem dX5_leftIn_12 : decode cX5_leftIn 12 = .ok (.if_icmp .eq 13, 3) := by decide +kernel
theorem dX5_leftIn_15 : decode cX5_leftIn 15 = .ok (.new 41, 3) := by decide +kernel
theorem dX5_leftIn_18 : decode cX5_leftIn 18 = .ok (.dup, 1) := by decide +kernel
theorem dX5_leftIn_19 : decode cX5_leftIn 19 = .ok (.ldc 172, 2) := by decide +kernel
theorem dX5_leftIn_21 : decode cX5_leftIn 21 = .ok (.invokespecial 45, 3) := by decide +kernel
theorem dX5_leftIn_24 : decode cX5_leftIn 24 = .ok (.athrow, 1) := by decide +kernel
theorem dX5_leftIn_25 : decode cX5_leftIn 25 = .ok (.aload_n 2, 1) := by decide +kernel
theorem dX5_leftIn_26 : decode cX5_leftIn 26 = .ok (.getfield 174, 3) := by decide +kernel
theorem dX5_leftIn_29 : decode cX5_leftIn 29 = .ok (.ireturn, 1) := by decide +kernel
theorem dX5_faults_0 : decode cX5_faults 0 = .ok (.aload_n 0, 1) := by decide +kernel
theorem dX5_faults_1 : decode cX5_faults 1 = .ok (.iload_n 1, 1) := by decide +kernel
theorem dX5_faults_2 : decode cX5_faults 2 = .ok (.invokevirtual 81, 3) := by decide +kernel
theorem dX5_faults_5 : decode cX5_faults 5 = .ok (.invokevirtual 131, 3) := by decide +kernel
theorem dX5_faults_8 : decode cX5_faults 8 = .ok (.ireturn, 1) := by decide +kernel
theorem dX5_hasFault_0 : decode cX5_hasFault 0 = .ok (.aload_n 0, 1) := by decide +kernel
theorem dX5_hasFault_1 : decode cX5_hasFault 1 = .ok (.iload_n 1, 1) := by decide +kernel
theorem dX5_hasFault_2 : decode cX5_hasFault 2 = .ok (.invokevirtual 81, 3) := by decide +kernel
theorem dX5_hasFault_5 : decode cX5_hasFault 5 = .ok (.astore_n 3, 1) := by decide +kernel
theorem dX5_hasFault_6 : decode cX5_hasFault 6 = .ok (.aload_n 0, 1) := by decide +kernel
theorem dX5_hasFault_7 : decode cX5_hasFault 7 = .ok (.iload_n 2, 1) := by decide +kernel
theorem dX5_hasFault_8 : decode cX5_hasFault 8 = .ok (.invokevirtual 107, 3) := by decide +kernel
theorem dX5_hasFault_11 : decode cX5_hasFault 11 = .ok (.pop, 1) := by decide +kernel
theorem dX5_hasFault_12 : decode cX5_hasFault 12 = .ok (.aload_n 3, 1) := by decide +kernel
theorem dX5_hasFault_13 : decode cX5_hasFault 13 = .ok (.iload_n 2, 1) := by decide +kernel
theorem dX5_hasFault_14 : decode cX5_hasFault 14 = .ok (.invokevirtual 120, 3) := by decide +kernel
theorem dX5_hasFault_17 : decode cX5_hasFault 17 = .ok (.ireturn, 1) := by decide +kernel
theorem dX5_lacks_0 : decode cX5_lacks 0 = .ok (.aload_n 0, 1) := by decide +kernel
theorem dX5_lacks_1 : decode cX5_lacks 1 = .ok (.iload_n 1, 1) := by decide +kernel
theorem dX5_lacks_2 : decode cX5_lacks 2 = .ok (.invokevirtual 107, 3) := by decide +kernel
theorem dX5_lacks_5 : decode cX5_lacks 5 = .ok (.getfield 177, 3) := by decide +kernel
theorem dX5_lacks_8 : decode cX5_lacks 8 = .ok (.ireturn, 1) := by decide +kernel
theorem dX5_lacksOf_0 : decode cX5_lacksOf 0 = .ok (.iload_n 1, 1) := by decide +kernel
theorem dX5_lacksOf_1 : decode cX5_lacksOf 1 = .ok (.invokestatic 50, 3) := by decide +kernel
theorem dX5_lacksOf_4 : decode cX5_lacksOf 4 = .ok (.iconst 0, 1) := by decide +kernel
theorem dX5_lacksOf_5 : decode cX5_lacksOf 5 = .ok (.istore_n 2, 1) := by decide +kernel
theorem dX5_lacksOf_6 : decode cX5_lacksOf 6 = .ok (.iconst 0, 1) := by decide +kernel
theorem dX5_lacksOf_7 : decode cX5_lacksOf 7 = .ok (.istore_n 3, 1) := by decide +kernel
theorem dX5_lacksOf_8 : decode cX5_lacksOf 8 = .ok (.iload_n 3, 1) := by decide +kernel
theorem dX5_lacksOf_9 : decode cX5_lacksOf 9 = .ok (.bipush 8, 2) := by decide +kernel
theorem dX5_lacksOf_11 : decode cX5_lacksOf 11 = .ok (.if_icmp .ge 41, 3) := by decide +kernel
theorem dX5_lacksOf_14 : decode cX5_lacksOf 14 = .ok (.aload_n 0, 1) := by decide +kernel
theorem dX5_lacksOf_15 : decode cX5_lacksOf 15 = .ok (.getfield 12, 3) := by decide +kernel
theorem dX5_lacksOf_18 : decode cX5_lacksOf 18 = .ok (.iload_n 3, 1) := by decide +kernel
theorem dX5_lacksOf_19 : decode cX5_lacksOf 19 = .ok (.invokevirtual 180, 3) := by decide +kernel
theorem dX5_lacksOf_22 : decode cX5_lacksOf 22 = .ok (.astore 4, 2) := by decide +kernel
theorem dX5_lacksOf_24 : decode cX5_lacksOf 24 = .ok (.aload 4, 2) := by decide +kernel
theorem dX5_lacksOf_26 : decode cX5_lacksOf 26 = .ok (.ifnull 20, 3) := by decide +kernel
theorem dX5_lacksOf_29 : decode cX5_lacksOf 29 = .ok (.aload 4, 2) := by decide +kernel
theorem dX5_lacksOf_31 : decode cX5_lacksOf 31 = .ok (.getfield 183, 3) := by decide +kernel
theorem dX5_lacksOf_34 : decode cX5_lacksOf 34 = .ok (.iload_n 1, 1) := by decide +kernel
theorem dX5_lacksOf_35 : decode cX5_lacksOf 35 = .ok (.if_icmp .ne 11, 3) := by decide +kernel
theorem dX5_lacksOf_38 : decode cX5_lacksOf 38 = .ok (.iload_n 2, 1) := by decide +kernel
theorem dX5_lacksOf_39 : decode cX5_lacksOf 39 = .ok (.aload 4, 2) := by decide +kernel
theorem dX5_lacksOf_41 : decode cX5_lacksOf 41 = .ok (.getfield 177, 3) := by decide +kernel
theorem dX5_lacksOf_44 : decode cX5_lacksOf 44 = .ok (.iadd, 1) := by decide +kernel
theorem dX5_lacksOf_45 : decode cX5_lacksOf 45 = .ok (.istore_n 2, 1) := by decide +kernel
theorem dX5_lacksOf_46 : decode cX5_lacksOf 46 = .ok (.iinc 3 1, 3) := by decide +kernel
theorem dX5_lacksOf_49 : decode cX5_lacksOf 49 = .ok (.goto (-41), 3) := by decide +kernel
theorem dX5_lacksOf_52 : decode cX5_lacksOf 52 = .ok (.iload_n 2, 1) := by decide +kernel
theorem dX5_lacksOf_53 : decode cX5_lacksOf 53 = .ok (.ireturn, 1) := by decide +kernel
theorem dX5_onShelf_0 : decode cX5_onShelf 0 = .ok (.aload_n 0, 1) := by decide +kernel
theorem dX5_onShelf_1 : decode cX5_onShelf 1 = .ok (.iload_n 1, 1) := by decide +kernel
theorem dX5_onShelf_2 : decode cX5_onShelf 2 = .ok (.invokevirtual 107, 3) := by decide +kernel
theorem dX5_onShelf_5 : decode cX5_onShelf 5 = .ok (.getfield 186, 3) := by decide +kernel
theorem dX5_onShelf_8 : decode cX5_onShelf 8 = .ok (.ireturn, 1) := by decide +kernel
theorem dX5_inStore_0 : decode cX5_inStore 0 = .ok (.iload_n 1, 1) := by decide +kernel
theorem dX5_inStore_1 : decode cX5_inStore 1 = .ok (.invokestatic 50, 3) := by decide +kernel
theorem dX5_inStore_4 : decode cX5_inStore 4 = .ok (.aload_n 0, 1) := by decide +kernel
theorem dX5_inStore_5 : decode cX5_inStore 5 = .ok (.getfield 12, 3) := by decide +kernel
theorem dX5_inStore_8 : decode cX5_inStore 8 = .ok (.iload_n 1, 1) := by decide +kernel
theorem dX5_inStore_9 : decode cX5_inStore 9 = .ok (.invokevirtual 56, 3) := by decide +kernel
theorem dX5_inStore_12 : decode cX5_inStore 12 = .ok (.ireturn, 1) := by decide +kernel
theorem dX5_nextRound_0 : decode cX5_nextRound 0 = .ok (.aload_n 0, 1) := by decide +kernel
theorem dX5_nextRound_1 : decode cX5_nextRound 1 = .ok (.getfield 12, 3) := by decide +kernel
theorem dX5_nextRound_4 : decode cX5_nextRound 4 = .ok (.invokevirtual 189, 3) := by decide +kernel
theorem dX5_nextRound_7 : decode cX5_nextRound 7 = .ok (.ireturn, 1) := by decide +kernel
theorem dX5_leavesIn_0 : decode cX5_leavesIn 0 = .ok (.aload_n 0, 1) := by decide +kernel
theorem dX5_leavesIn_1 : decode cX5_leavesIn 1 = .ok (.iload_n 1, 1) := by decide +kernel
theorem dX5_leavesIn_2 : decode cX5_leavesIn 2 = .ok (.invokevirtual 192, 3) := by decide +kernel
theorem dX5_leavesIn_5 : decode cX5_leavesIn 5 = .ok (.aload_n 0, 1) := by decide +kernel
theorem dX5_leavesIn_6 : decode cX5_leavesIn 6 = .ok (.getfield 18, 3) := by decide +kernel
theorem dX5_leavesIn_9 : decode cX5_leavesIn 9 = .ok (.aload_n 0, 1) := by decide +kernel
theorem dX5_leavesIn_10 : decode cX5_leavesIn 10 = .ok (.getfield 12, 3) := by decide +kernel
theorem dX5_leavesIn_13 : decode cX5_leavesIn 13 = .ok (.invokevirtual 195, 3) := by decide +kernel
theorem dX5_leavesIn_16 : decode cX5_leavesIn 16 = .ok (.iconst 0, 1) := by decide +kernel
theorem dX5_leavesIn_17 : decode cX5_leavesIn 17 = .ok (.istore_n 2, 1) := by decide +kernel
theorem dX5_leavesIn_18 : decode cX5_leavesIn 18 = .ok (.iconst 0, 1) := by decide +kernel
theorem dX5_leavesIn_19 : decode cX5_leavesIn 19 = .ok (.istore_n 3, 1) := by decide +kernel
theorem dX5_leavesIn_20 : decode cX5_leavesIn 20 = .ok (.iload_n 3, 1) := by decide +kernel
theorem dX5_leavesIn_21 : decode cX5_leavesIn 21 = .ok (.sipush 300, 3) := by decide +kernel
theorem dX5_leavesIn_24 : decode cX5_leavesIn 24 = .ok (.if_icmp .ge 67, 3) := by decide +kernel
theorem dX5_leavesIn_27 : decode cX5_leavesIn 27 = .ok (.aload_n 0, 1) := by decide +kernel
theorem dX5_leavesIn_28 : decode cX5_leavesIn 28 = .ok (.getfield 18, 3) := by decide +kernel
theorem dX5_leavesIn_31 : decode cX5_leavesIn 31 = .ok (.invokevirtual 199, 3) := by decide +kernel
theorem dX5_leavesIn_34 : decode cX5_leavesIn 34 = .ok (.istore 4, 2) := by decide +kernel
theorem dX5_leavesIn_36 : decode cX5_leavesIn 36 = .ok (.iload_n 2, 1) := by decide +kernel
theorem dX5_leavesIn_37 : decode cX5_leavesIn 37 = .ok (.iload 4, 2) := by decide +kernel
theorem dX5_leavesIn_39 : decode cX5_leavesIn 39 = .ok (.iadd, 1) := by decide +kernel
theorem dX5_leavesIn_40 : decode cX5_leavesIn 40 = .ok (.sipush 300, 3) := by decide +kernel
theorem dX5_leavesIn_43 : decode cX5_leavesIn 43 = .ok (.if_icmp .lt 6, 3) := by decide +kernel
theorem dX5_leavesIn_46 : decode cX5_leavesIn 46 = .ok (.goto 45, 3) := by decide +kernel
theorem dX5_leavesIn_49 : decode cX5_leavesIn 49 = .ok (.aload_n 0, 1) := by decide +kernel
theorem dX5_leavesIn_50 : decode cX5_leavesIn 50 = .ok (.getfield 18, 3) := by decide +kernel
theorem dX5_leavesIn_53 : decode cX5_leavesIn 53 = .ok (.iload 4, 2) := by decide +kernel
theorem dX5_leavesIn_55 : decode cX5_leavesIn 55 = .ok (.invokevirtual 202, 3) := by decide +kernel
theorem dX5_leavesIn_58 : decode cX5_leavesIn 58 = .ok (.aload_n 0, 1) := by decide +kernel
theorem dX5_leavesIn_59 : decode cX5_leavesIn 59 = .ok (.getfield 18, 3) := by decide +kernel
theorem dX5_leavesIn_62 : decode cX5_leavesIn 62 = .ok (.invokevirtual 145, 3) := by decide +kernel
theorem dX5_leavesIn_65 : decode cX5_leavesIn 65 = .ok (.iload_n 2, 1) := by decide +kernel
theorem dX5_leavesIn_66 : decode cX5_leavesIn 66 = .ok (.iload 4, 2) := by decide +kernel
theorem dX5_leavesIn_68 : decode cX5_leavesIn 68 = .ok (.iconst 1, 1) := by decide +kernel
theorem dX5_leavesIn_69 : decode cX5_leavesIn 69 = .ok (.iadd, 1) := by decide +kernel
theorem dX5_leavesIn_70 : decode cX5_leavesIn 70 = .ok (.iadd, 1) := by decide +kernel
theorem dX5_leavesIn_71 : decode cX5_leavesIn 71 = .ok (.istore_n 2, 1) := by decide +kernel
theorem dX5_leavesIn_72 : decode cX5_leavesIn 72 = .ok (.aload_n 0, 1) := by decide +kernel
theorem dX5_leavesIn_73 : decode cX5_leavesIn 73 = .ok (.getfield 18, 3) := by decide +kernel
theorem dX5_leavesIn_76 : decode cX5_leavesIn 76 = .ok (.iload_n 1, 1) := by decide +kernel
theorem dX5_leavesIn_77 : decode cX5_leavesIn 77 = .ok (.invokevirtual 205, 3) := by decide +kernel
theorem dX5_leavesIn_80 : decode cX5_leavesIn 80 = .ok (.ifCond .eq 5, 3) := by decide +kernel
theorem dX5_leavesIn_83 : decode cX5_leavesIn 83 = .ok (.iload_n 2, 1) := by decide +kernel
theorem dX5_leavesIn_84 : decode cX5_leavesIn 84 = .ok (.ireturn, 1) := by decide +kernel
theorem dX5_leavesIn_85 : decode cX5_leavesIn 85 = .ok (.iinc 3 1, 3) := by decide +kernel
theorem dX5_leavesIn_88 : decode cX5_leavesIn 88 = .ok (.goto (-68), 3) := by decide +kernel
theorem dX5_leavesIn_91 : decode cX5_leavesIn 91 = .ok (.new 123, 3) := by decide +kernel
theorem dX5_leavesIn_94 : decode cX5_leavesIn 94 = .ok (.dup, 1) := by decide +kernel
theorem dX5_leavesIn_95 : decode cX5_leavesIn 95 = .ok (.ldc 208, 2) := by decide +kernel
theorem dX5_leavesIn_97 : decode cX5_leavesIn 97 = .ok (.invokespecial 127, 3) := by decide +kernel
theorem dX5_leavesIn_100 : decode cX5_leavesIn 100 = .ok (.athrow, 1) := by decide +kernel
theorem dX5_leavesByTicks_0 : decode cX5_leavesByTicks 0 = .ok (.aload_n 0, 1) := by decide +kernel
theorem dX5_leavesByTicks_1 : decode cX5_leavesByTicks 1 = .ok (.iload_n 1, 1) := by decide +kernel
theorem dX5_leavesByTicks_2 : decode cX5_leavesByTicks 2 = .ok (.invokevirtual 192, 3) := by decide +kernel
theorem dX5_leavesByTicks_5 : decode cX5_leavesByTicks 5 = .ok (.aload_n 0, 1) := by decide +kernel
theorem dX5_leavesByTicks_6 : decode cX5_leavesByTicks 6 = .ok (.getfield 18, 3) := by decide +kernel
theorem dX5_leavesByTicks_9 : decode cX5_leavesByTicks 9 = .ok (.aload_n 0, 1) := by decide +kernel
theorem dX5_leavesByTicks_10 : decode cX5_leavesByTicks 10 = .ok (.getfield 12, 3) := by decide +kernel
theorem dX5_leavesByTicks_13 : decode cX5_leavesByTicks 13 = .ok (.invokevirtual 195, 3) := by decide +kernel
theorem dX5_leavesByTicks_16 : decode cX5_leavesByTicks 16 = .ok (.iconst 1, 1) := by decide +kernel
theorem dX5_leavesByTicks_17 : decode cX5_leavesByTicks 17 = .ok (.istore_n 2, 1) := by decide +kernel
theorem dX5_leavesByTicks_18 : decode cX5_leavesByTicks 18 = .ok (.iload_n 2, 1) := by decide +kernel
theorem dX5_leavesByTicks_19 : decode cX5_leavesByTicks 19 = .ok (.sipush 300, 3) := by decide +kernel
theorem dX5_leavesByTicks_22 : decode cX5_leavesByTicks 22 = .ok (.if_icmp .gt 29, 3) := by decide +kernel
theorem dX5_leavesByTicks_25 : decode cX5_leavesByTicks 25 = .ok (.aload_n 0, 1) := by decide +kernel
theorem dX5_leavesByTicks_26 : decode cX5_leavesByTicks 26 = .ok (.getfield 18, 3) := by decide +kernel
theorem dX5_leavesByTicks_29 : decode cX5_leavesByTicks 29 = .ok (.invokevirtual 145, 3) := by decide +kernel
theorem dX5_leavesByTicks_32 : decode cX5_leavesByTicks 32 = .ok (.aload_n 0, 1) := by decide +kernel
theorem dX5_leavesByTicks_33 : decode cX5_leavesByTicks 33 = .ok (.getfield 18, 3) := by decide +kernel
theorem dX5_leavesByTicks_36 : decode cX5_leavesByTicks 36 = .ok (.iload_n 1, 1) := by decide +kernel
theorem dX5_leavesByTicks_37 : decode cX5_leavesByTicks 37 = .ok (.invokevirtual 205, 3) := by decide +kernel
theorem dX5_leavesByTicks_40 : decode cX5_leavesByTicks 40 = .ok (.ifCond .eq 5, 3) := by decide +kernel
theorem dX5_leavesByTicks_43 : decode cX5_leavesByTicks 43 = .ok (.iload_n 2, 1) := by decide +kernel
theorem dX5_leavesByTicks_44 : decode cX5_leavesByTicks 44 = .ok (.ireturn, 1) := by decide +kernel
theorem dX5_leavesByTicks_45 : decode cX5_leavesByTicks 45 = .ok (.iinc 2 1, 3) := by decide +kernel
theorem dX5_leavesByTicks_48 : decode cX5_leavesByTicks 48 = .ok (.goto (-30), 3) := by decide +kernel
theorem dX5_leavesByTicks_51 : decode cX5_leavesByTicks 51 = .ok (.new 123, 3) := by decide +kernel
theorem dX5_leavesByTicks_54 : decode cX5_leavesByTicks 54 = .ok (.dup, 1) := by decide +kernel
theorem dX5_leavesByTicks_55 : decode cX5_leavesByTicks 55 = .ok (.ldc 208, 2) := by decide +kernel
theorem dX5_leavesByTicks_57 : decode cX5_leavesByTicks 57 = .ok (.invokespecial 127, 3) := by decide +kernel
theorem dX5_leavesByTicks_60 : decode cX5_leavesByTicks 60 = .ok (.athrow, 1) := by decide +kernel
theorem dX5_nextToLeave_0 : decode cX5_nextToLeave 0 = .ok (.aload_n 0, 1) := by decide +kernel
theorem dX5_nextToLeave_1 : decode cX5_nextToLeave 1 = .ok (.getfield 18, 3) := by decide +kernel
theorem dX5_nextToLeave_4 : decode cX5_nextToLeave 4 = .ok (.aload_n 0, 1) := by decide +kernel
theorem dX5_nextToLeave_5 : decode cX5_nextToLeave 5 = .ok (.getfield 12, 3) := by decide +kernel
theorem dX5_nextToLeave_8 : decode cX5_nextToLeave 8 = .ok (.invokevirtual 195, 3) := by decide +kernel
theorem dX5_nextToLeave_11 : decode cX5_nextToLeave 11 = .ok (.aload_n 0, 1) := by decide +kernel
theorem dX5_nextToLeave_12 : decode cX5_nextToLeave 12 = .ok (.getfield 12, 3) := by decide +kernel
theorem dX5_nextToLeave_15 : decode cX5_nextToLeave 15 = .ok (.getfield 139, 3) := by decide +kernel
theorem dX5_nextToLeave_18 : decode cX5_nextToLeave 18 = .ok (.getfield 142, 3) := by decide +kernel
theorem dX5_nextToLeave_21 : decode cX5_nextToLeave 21 = .ok (.istore_n 1, 1) := by decide +kernel
theorem dX5_nextToLeave_22 : decode cX5_nextToLeave 22 = .ok (.iconst 1, 1) := by decide +kernel
theorem dX5_nextToLeave_23 : decode cX5_nextToLeave 23 = .ok (.istore_n 2, 1) := by decide +kernel
theorem dX5_nextToLeave_24 : decode cX5_nextToLeave 24 = .ok (.iload_n 2, 1) := by decide +kernel
theorem dX5_nextToLeave_25 : decode cX5_nextToLeave 25 = .ok (.sipush 300, 3) := by decide +kernel
theorem dX5_nextToLeave_28 : decode cX5_nextToLeave 28 = .ok (.if_icmp .gt 42, 3) := by decide +kernel
theorem dX5_nextToLeave_31 : decode cX5_nextToLeave 31 = .ok (.aload_n 0, 1) := by decide +kernel
theorem dX5_nextToLeave_32 : decode cX5_nextToLeave 32 = .ok (.getfield 18, 3) := by decide +kernel
theorem dX5_nextToLeave_35 : decode cX5_nextToLeave 35 = .ok (.invokevirtual 145, 3) := by decide +kernel
theorem dX5_nextToLeave_38 : decode cX5_nextToLeave 38 = .ok (.aload_n 0, 1) := by decide +kernel
theorem dX5_nextToLeave_39 : decode cX5_nextToLeave 39 = .ok (.getfield 18, 3) := by decide +kernel
theorem dX5_nextToLeave_42 : decode cX5_nextToLeave 42 = .ok (.getfield 139, 3) := by decide +kernel
theorem dX5_nextToLeave_45 : decode cX5_nextToLeave 45 = .ok (.getfield 142, 3) := by decide +kernel
theorem dX5_nextToLeave_48 : decode cX5_nextToLeave 48 = .ok (.iload_n 1, 1) := by decide +kernel
theorem dX5_nextToLeave_49 : decode cX5_nextToLeave 49 = .ok (.if_icmp .le 15, 3) := by decide +kernel
theorem dX5_nextToLeave_52 : decode cX5_nextToLeave 52 = .ok (.aload_n 0, 1) := by decide +kernel
theorem dX5_nextToLeave_53 : decode cX5_nextToLeave 53 = .ok (.getfield 18, 3) := by decide +kernel
theorem dX5_nextToLeave_56 : decode cX5_nextToLeave 56 = .ok (.getfield 139, 3) := by decide +kernel
theorem dX5_nextToLeave_59 : decode cX5_nextToLeave 59 = .ok (.iload_n 1, 1) := by decide +kernel
theorem dX5_nextToLeave_60 : decode cX5_nextToLeave 60 = .ok (.invokevirtual 210, 3) := by decide +kernel
theorem dX5_nextToLeave_63 : decode cX5_nextToLeave 63 = .ok (.ireturn, 1) := by decide +kernel
theorem dX5_nextToLeave_64 : decode cX5_nextToLeave 64 = .ok (.iinc 2 1, 3) := by decide +kernel
theorem dX5_nextToLeave_67 : decode cX5_nextToLeave 67 = .ok (.goto (-43), 3) := by decide +kernel
theorem dX5_nextToLeave_70 : decode cX5_nextToLeave 70 = .ok (.new 213, 3) := by decide +kernel
theorem dX5_nextToLeave_73 : decode cX5_nextToLeave 73 = .ok (.dup, 1) := by decide +kernel
theorem dX5_nextToLeave_74 : decode cX5_nextToLeave 74 = .ok (.ldc 215, 2) := by decide +kernel
theorem dX5_nextToLeave_76 : decode cX5_nextToLeave 76 = .ok (.invokespecial 217, 3) := by decide +kernel
theorem dX5_nextToLeave_79 : decode cX5_nextToLeave 79 = .ok (.athrow, 1) := by decide +kernel
theorem dX5_traceLength_0 : decode cX5_traceLength 0 = .ok (.aload_n 0, 1) := by decide +kernel
theorem dX5_traceLength_1 : decode cX5_traceLength 1 = .ok (.iload_n 1, 1) := by decide +kernel
theorem dX5_traceLength_2 : decode cX5_traceLength 2 = .ok (.invokevirtual 218, 3) := by decide +kernel
theorem dX5_traceLength_5 : decode cX5_traceLength 5 = .ok (.getfield 222, 3) := by decide +kernel
theorem dX5_traceLength_8 : decode cX5_traceLength 8 = .ok (.ireturn, 1) := by decide +kernel
theorem dX5_traceAt_0 : decode cX5_traceAt 0 = .ok (.aload_n 0, 1) := by decide +kernel
theorem dX5_traceAt_1 : decode cX5_traceAt 1 = .ok (.iload_n 1, 1) := by decide +kernel
theorem dX5_traceAt_2 : decode cX5_traceAt 2 = .ok (.invokevirtual 218, 3) := by decide +kernel
theorem dX5_traceAt_5 : decode cX5_traceAt 5 = .ok (.astore_n 3, 1) := by decide +kernel
theorem dX5_traceAt_6 : decode cX5_traceAt 6 = .ok (.aload_n 3, 1) := by decide +kernel
theorem dX5_traceAt_7 : decode cX5_traceAt 7 = .ok (.iload_n 2, 1) := by decide +kernel
theorem dX5_traceAt_8 : decode cX5_traceAt 8 = .ok (.invokevirtual 227, 3) := by decide +kernel
theorem dX5_traceAt_11 : decode cX5_traceAt 11 = .ok (.ifCond .ne 13, 3) := by decide +kernel
theorem dX5_traceAt_14 : decode cX5_traceAt 14 = .ok (.new 230, 3) := by decide +kernel
theorem dX5_traceAt_17 : decode cX5_traceAt 17 = .ok (.dup, 1) := by decide +kernel
theorem dX5_traceAt_18 : decode cX5_traceAt 18 = .ok (.ldc 232, 2) := by decide +kernel
theorem dX5_traceAt_20 : decode cX5_traceAt 20 = .ok (.invokespecial 234, 3) := by decide +kernel
theorem dX5_traceAt_23 : decode cX5_traceAt 23 = .ok (.athrow, 1) := by decide +kernel
theorem dX5_traceAt_24 : decode cX5_traceAt 24 = .ok (.aload_n 3, 1) := by decide +kernel
theorem dX5_traceAt_25 : decode cX5_traceAt 25 = .ok (.iload_n 2, 1) := by decide +kernel
theorem dX5_traceAt_26 : decode cX5_traceAt 26 = .ok (.invokevirtual 235, 3) := by decide +kernel
theorem dX5_traceAt_29 : decode cX5_traceAt 29 = .ok (.ireturn, 1) := by decide +kernel
theorem dX5_countOf_0 : decode cX5_countOf 0 = .ok (.ldc 239, 2) := by decide +kernel
theorem dX5_countOf_2 : decode cX5_countOf 2 = .ok (.iload_n 1, 1) := by decide +kernel
theorem dX5_countOf_3 : decode cX5_countOf 3 = .ok (.invokevirtual 241, 3) := by decide +kernel
theorem dX5_countOf_6 : decode cX5_countOf 6 = .ok (.ifCond .ge 13, 3) := by decide +kernel
theorem dX5_countOf_9 : decode cX5_countOf 9 = .ok (.new 25, 3) := by decide +kernel
theorem dX5_countOf_12 : decode cX5_countOf 12 = .ok (.dup, 1) := by decide +kernel
theorem dX5_countOf_13 : decode cX5_countOf 13 = .ok (.ldc 246, 2) := by decide +kernel
theorem dX5_countOf_15 : decode cX5_countOf 15 = .ok (.invokespecial 29, 3) := by decide +kernel
theorem dX5_countOf_18 : decode cX5_countOf 18 = .ok (.athrow, 1) := by decide +kernel
theorem dX5_countOf_19 : decode cX5_countOf 19 = .ok (.aload_n 0, 1) := by decide +kernel
theorem dX5_countOf_20 : decode cX5_countOf 20 = .ok (.getfield 12, 3) := by decide +kernel
theorem dX5_countOf_23 : decode cX5_countOf 23 = .ok (.iload_n 1, 1) := by decide +kernel
theorem dX5_countOf_24 : decode cX5_countOf 24 = .ok (.invokevirtual 248, 3) := by decide +kernel
theorem dX5_countOf_27 : decode cX5_countOf 27 = .ok (.ireturn, 1) := by decide +kernel
theorem dX5_fitted_0 : decode cX5_fitted 0 = .ok (.lconst 0, 1) := by decide +kernel
theorem dX5_fitted_1 : decode cX5_fitted 1 = .ok (.lstore_n 1, 1) := by decide +kernel
theorem dX5_fitted_2 : decode cX5_fitted 2 = .ok (.iconst 0, 1) := by decide +kernel
theorem dX5_fitted_3 : decode cX5_fitted 3 = .ok (.istore_n 3, 1) := by decide +kernel
theorem dX5_fitted_4 : decode cX5_fitted 4 = .ok (.iload_n 3, 1) := by decide +kernel
theorem dX5_fitted_5 : decode cX5_fitted 5 = .ok (.bipush 8, 2) := by decide +kernel
theorem dX5_fitted_7 : decode cX5_fitted 7 = .ok (.if_icmp .ge 32, 3) := by decide +kernel
theorem dX5_fitted_10 : decode cX5_fitted 10 = .ok (.aload_n 0, 1) := by decide +kernel
theorem dX5_fitted_11 : decode cX5_fitted 11 = .ok (.getfield 12, 3) := by decide +kernel
theorem dX5_fitted_14 : decode cX5_fitted 14 = .ok (.iload_n 3, 1) := by decide +kernel
theorem dX5_fitted_15 : decode cX5_fitted 15 = .ok (.invokevirtual 180, 3) := by decide +kernel
theorem dX5_fitted_18 : decode cX5_fitted 18 = .ok (.astore 4, 2) := by decide +kernel
theorem dX5_fitted_20 : decode cX5_fitted 20 = .ok (.aload 4, 2) := by decide +kernel
theorem dX5_fitted_22 : decode cX5_fitted 22 = .ok (.ifnull 11, 3) := by decide +kernel
theorem dX5_fitted_25 : decode cX5_fitted 25 = .ok (.lload_n 1, 1) := by decide +kernel
theorem dX5_fitted_26 : decode cX5_fitted 26 = .ok (.aload 4, 2) := by decide +kernel
theorem dX5_fitted_28 : decode cX5_fitted 28 = .ok (.getfield 252, 3) := by decide +kernel
theorem dX5_fitted_31 : decode cX5_fitted 31 = .ok (.ladd, 1) := by decide +kernel
theorem dX5_fitted_32 : decode cX5_fitted 32 = .ok (.lstore_n 1, 1) := by decide +kernel
theorem dX5_fitted_33 : decode cX5_fitted 33 = .ok (.iinc 3 1, 3) := by decide +kernel
theorem dX5_fitted_36 : decode cX5_fitted 36 = .ok (.goto (-32), 3) := by decide +kernel
theorem dX5_fitted_39 : decode cX5_fitted 39 = .ok (.lload_n 1, 1) := by decide +kernel
theorem dX5_fitted_40 : decode cX5_fitted 40 = .ok (.lreturn, 1) := by decide +kernel
theorem dX5_lackShare_0 : decode cX5_lackShare 0 = .ok (.aload_n 0, 1) := by decide +kernel
theorem dX5_lackShare_1 : decode cX5_lackShare 1 = .ok (.getfield 12, 3) := by decide +kernel
theorem dX5_lackShare_4 : decode cX5_lackShare 4 = .ok (.bipush 45, 2) := by decide +kernel
theorem dX5_lackShare_6 : decode cX5_lackShare 6 = .ok (.invokevirtual 248, 3) := by decide +kernel
theorem dX5_lackShare_9 : decode cX5_lackShare 9 = .ok (.istore_n 1, 1) := by decide +kernel
theorem dX5_lackShare_10 : decode cX5_lackShare 10 = .ok (.aload_n 0, 1) := by decide +kernel
theorem dX5_lackShare_11 : decode cX5_lackShare 11 = .ok (.getfield 12, 3) := by decide +kernel
theorem dX5_lackShare_14 : decode cX5_lackShare 14 = .ok (.bipush 43, 2) := by decide +kernel
theorem dX5_lackShare_16 : decode cX5_lackShare 16 = .ok (.invokevirtual 248, 3) := by decide +kernel
theorem dX5_lackShare_19 : decode cX5_lackShare 19 = .ok (.iload_n 1, 1) := by decide +kernel
theorem dX5_lackShare_20 : decode cX5_lackShare 20 = .ok (.iadd, 1) := by decide +kernel
theorem dX5_lackShare_21 : decode cX5_lackShare 21 = .ok (.aload_n 0, 1) := by decide +kernel
theorem dX5_lackShare_22 : decode cX5_lackShare 22 = .ok (.getfield 12, 3) := by decide +kernel
theorem dX5_lackShare_25 : decode cX5_lackShare 25 = .ok (.bipush 46, 2) := by decide +kernel
theorem dX5_lackShare_27 : decode cX5_lackShare 27 = .ok (.invokevirtual 248, 3) := by decide +kernel
theorem dX5_lackShare_30 : decode cX5_lackShare 30 = .ok (.iadd, 1) := by decide +kernel
theorem dX5_lackShare_31 : decode cX5_lackShare 31 = .ok (.istore_n 2, 1) := by decide +kernel
theorem dX5_lackShare_32 : decode cX5_lackShare 32 = .ok (.iload_n 2, 1) := by decide +kernel
theorem dX5_lackShare_33 : decode cX5_lackShare 33 = .ok (.ifCond .ne 14, 3) := by decide +kernel
theorem dX5_lackShare_36 : decode cX5_lackShare 36 = .ok (.new 256, 3) := by decide +kernel
theorem dX5_lackShare_39 : decode cX5_lackShare 39 = .ok (.dup, 1) := by decide +kernel
theorem dX5_lackShare_40 : decode cX5_lackShare 40 = .ok (.ldc_w 258, 3) := by decide +kernel
theorem dX5_lackShare_43 : decode cX5_lackShare 43 = .ok (.invokespecial 260, 3) := by decide +kernel
theorem dX5_lackShare_46 : decode cX5_lackShare 46 = .ok (.athrow, 1) := by decide +kernel
theorem dX5_lackShare_47 : decode cX5_lackShare 47 = .ok (.iload_n 1, 1) := by decide +kernel
theorem dX5_lackShare_48 : decode cX5_lackShare 48 = .ok (.i2f, 1) := by decide +kernel
theorem dX5_lackShare_49 : decode cX5_lackShare 49 = .ok (.iload_n 2, 1) := by decide +kernel
theorem dX5_lackShare_50 : decode cX5_lackShare 50 = .ok (.i2f, 1) := by decide +kernel
theorem dX5_lackShare_51 : decode cX5_lackShare 51 = .ok (.fdiv, 1) := by decide +kernel
theorem dX5_lackShare_52 : decode cX5_lackShare 52 = .ok (.freturn, 1) := by decide +kernel
theorem dX5_meanTime_0 : decode cX5_meanTime 0 = .ok (.aload_n 0, 1) := by decide +kernel
theorem dX5_meanTime_1 : decode cX5_meanTime 1 = .ok (.getfield 12, 3) := by decide +kernel
theorem dX5_meanTime_4 : decode cX5_meanTime 4 = .ok (.getfield 139, 3) := by decide +kernel
theorem dX5_meanTime_7 : decode cX5_meanTime 7 = .ok (.getfield 142, 3) := by decide +kernel
theorem dX5_meanTime_10 : decode cX5_meanTime 10 = .ok (.istore_n 1, 1) := by decide +kernel
theorem dX5_meanTime_11 : decode cX5_meanTime 11 = .ok (.iload_n 1, 1) := by decide +kernel
theorem dX5_meanTime_12 : decode cX5_meanTime 12 = .ok (.ifCond .ne 14, 3) := by decide +kernel
theorem dX5_meanTime_15 : decode cX5_meanTime 15 = .ok (.new 256, 3) := by decide +kernel
theorem dX5_meanTime_18 : decode cX5_meanTime 18 = .ok (.dup, 1) := by decide +kernel
theorem dX5_meanTime_19 : decode cX5_meanTime 19 = .ok (.ldc_w 261, 3) := by decide +kernel
theorem dX5_meanTime_22 : decode cX5_meanTime 22 = .ok (.invokespecial 260, 3) := by decide +kernel
theorem dX5_meanTime_25 : decode cX5_meanTime 25 = .ok (.athrow, 1) := by decide +kernel
theorem dX5_meanTime_26 : decode cX5_meanTime 26 = .ok (.aload_n 0, 1) := by decide +kernel
theorem dX5_meanTime_27 : decode cX5_meanTime 27 = .ok (.getfield 12, 3) := by decide +kernel
theorem dX5_meanTime_30 : decode cX5_meanTime 30 = .ok (.invokevirtual 263, 3) := by decide +kernel
theorem dX5_meanTime_33 : decode cX5_meanTime 33 = .ok (.l2d, 1) := by decide +kernel
theorem dX5_meanTime_34 : decode cX5_meanTime 34 = .ok (.iload_n 1, 1) := by decide +kernel
theorem dX5_meanTime_35 : decode cX5_meanTime 35 = .ok (.i2d, 1) := by decide +kernel
theorem dX5_meanTime_36 : decode cX5_meanTime 36 = .ok (.ddiv, 1) := by decide +kernel
theorem dX5_meanTime_37 : decode cX5_meanTime 37 = .ok (.dreturn, 1) := by decide +kernel
theorem dX5_isWithin_0 : decode cX5_isWithin 0 = .ok (.iload_n 0, 1) := by decide +kernel
theorem dX5_isWithin_1 : decode cX5_isWithin 1 = .ok (.iload_n 1, 1) := by decide +kernel
theorem dX5_isWithin_2 : decode cX5_isWithin 2 = .ok (.if_icmp .lt 12, 3) := by decide +kernel
theorem dX5_isWithin_5 : decode cX5_isWithin 5 = .ok (.iload_n 0, 1) := by decide +kernel
theorem dX5_isWithin_6 : decode cX5_isWithin 6 = .ok (.iload_n 2, 1) := by decide +kernel
theorem dX5_isWithin_7 : decode cX5_isWithin 7 = .ok (.if_icmp .gt 7, 3) := by decide +kernel
theorem dX5_isWithin_10 : decode cX5_isWithin 10 = .ok (.iconst 1, 1) := by decide +kernel
theorem dX5_isWithin_11 : decode cX5_isWithin 11 = .ok (.goto 4, 3) := by decide +kernel
theorem dX5_isWithin_14 : decode cX5_isWithin 14 = .ok (.iconst 0, 1) := by decide +kernel
theorem dX5_isWithin_15 : decode cX5_isWithin 15 = .ok (.ireturn, 1) := by decide +kernel
theorem dX5_requirePart_0 : decode cX5_requirePart 0 = .ok (.iload_n 0, 1) := by decide +kernel
theorem dX5_requirePart_1 : decode cX5_requirePart 1 = .ok (.iconst 0, 1) := by decide +kernel
theorem dX5_requirePart_2 : decode cX5_requirePart 2 = .ok (.iconst 5, 1) := by decide +kernel
theorem dX5_requirePart_3 : decode cX5_requirePart 3 = .ok (.invokestatic 21, 3) := by decide +kernel
theorem dX5_requirePart_6 : decode cX5_requirePart 6 = .ok (.ifCond .ne 14, 3) := by decide +kernel
theorem dX5_requirePart_9 : decode cX5_requirePart 9 = .ok (.new 213, 3) := by decide +kernel
theorem dX5_requirePart_12 : decode cX5_requirePart 12 = .ok (.dup, 1) := by decide +kernel
theorem dX5_requirePart_13 : decode cX5_requirePart 13 = .ok (.ldc_w 267, 3) := by decide +kernel
theorem dX5_requirePart_16 : decode cX5_requirePart 16 = .ok (.invokespecial 217, 3) := by decide +kernel
theorem dX5_requirePart_19 : decode cX5_requirePart 19 = .ok (.athrow, 1) := by decide +kernel
theorem dX5_requirePart_20 : decode cX5_requirePart 20 = .ok (.return_, 1) := by decide +kernel
theorem dX5_requireStation_0 : decode cX5_requireStation 0 = .ok (.aload_n 0, 1) := by decide +kernel
theorem dX5_requireStation_1 : decode cX5_requireStation 1 = .ok (.getfield 12, 3) := by decide +kernel
theorem dX5_requireStation_4 : decode cX5_requireStation 4 = .ok (.iload_n 1, 1) := by decide +kernel
theorem dX5_requireStation_5 : decode cX5_requireStation 5 = .ok (.invokevirtual 180, 3) := by decide +kernel
theorem dX5_requireStation_8 : decode cX5_requireStation 8 = .ok (.astore_n 2, 1) := by decide +kernel
theorem dX5_requireStation_9 : decode cX5_requireStation 9 = .ok (.aload_n 2, 1) := by decide +kernel
theorem dX5_requireStation_10 : decode cX5_requireStation 10 = .ok (.ifnonnull 14, 3) := by decide +kernel
theorem dX5_requireStation_13 : decode cX5_requireStation 13 = .ok (.new 213, 3) := by decide +kernel
theorem dX5_requireStation_16 : decode cX5_requireStation 16 = .ok (.dup, 1) := by decide +kernel
theorem dX5_requireStation_17 : decode cX5_requireStation 17 = .ok (.ldc_w 269, 3) := by decide +kernel
theorem dX5_requireStation_20 : decode cX5_requireStation 20 = .ok (.invokespecial 217, 3) := by decide +kernel
theorem dX5_requireStation_23 : decode cX5_requireStation 23 = .ok (.athrow, 1) := by decide +kernel
theorem dX5_requireStation_24 : decode cX5_requireStation 24 = .ok (.aload_n 2, 1) := by decide +kernel
theorem dX5_requireStation_25 : decode cX5_requireStation 25 = .ok (.areturn, 1) := by decide +kernel
theorem dX5_requireCar_0 : decode cX5_requireCar 0 = .ok (.aload_n 0, 1) := by decide +kernel
end
section
theorem dX5_requireCar_1 : decode cX5_requireCar 1 = .ok (.getfield 12, 3) := by decide +kernel
theorem dX5_requireCar_4 : decode cX5_requireCar 4 = .ok (.iload_n 1, 1) := by decide +kernel
theorem dX5_requireCar_5 : decode cX5_requireCar 5 = .ok (.invokevirtual 271, 3) := by decide +kernel
theorem dX5_requireCar_8 : decode cX5_requireCar 8 = .ok (.astore_n 2, 1) := by decide +kernel
theorem dX5_requireCar_9 : decode cX5_requireCar 9 = .ok (.aload_n 2, 1) := by decide +kernel
theorem dX5_requireCar_10 : decode cX5_requireCar 10 = .ok (.ifnonnull 14, 3) := by decide +kernel
theorem dX5_requireCar_13 : decode cX5_requireCar 13 = .ok (.new 213, 3) := by decide +kernel
theorem dX5_requireCar_16 : decode cX5_requireCar 16 = .ok (.dup, 1) := by decide +kernel
theorem dX5_requireCar_17 : decode cX5_requireCar 17 = .ok (.ldc_w 274, 3) := by decide +kernel
theorem dX5_requireCar_20 : decode cX5_requireCar 20 = .ok (.invokespecial 217, 3) := by decide +kernel
theorem dX5_requireCar_23 : decode cX5_requireCar 23 = .ok (.athrow, 1) := by decide +kernel
theorem dX5_requireCar_24 : decode cX5_requireCar 24 = .ok (.aload_n 2, 1) := by decide +kernel
theorem dX5_requireCar_25 : decode cX5_requireCar 25 = .ok (.areturn, 1) := by decide +kernel
theorem dX5_requireStanding_0 : decode cX5_requireStanding 0 = .ok (.aload_n 0, 1) := by decide +kernel
theorem dX5_requireStanding_1 : decode cX5_requireStanding 1 = .ok (.iload_n 1, 1) := by decide +kernel
theorem dX5_requireStanding_2 : decode cX5_requireStanding 2 = .ok (.invokevirtual 81, 3) := by decide +kernel
theorem dX5_requireStanding_5 : decode cX5_requireStanding 5 = .ok (.astore_n 2, 1) := by decide +kernel
theorem dX5_requireStanding_6 : decode cX5_requireStanding 6 = .ok (.aload_n 2, 1) := by decide +kernel
theorem dX5_requireStanding_7 : decode cX5_requireStanding 7 = .ok (.getfield 87, 3) := by decide +kernel
theorem dX5_requireStanding_10 : decode cX5_requireStanding 10 = .ok (.bipush 115, 2) := by decide +kernel
theorem dX5_requireStanding_12 : decode cX5_requireStanding 12 = .ok (.if_icmp .eq 14, 3) := by decide +kernel
theorem dX5_requireStanding_15 : decode cX5_requireStanding 15 = .ok (.new 41, 3) := by decide +kernel
theorem dX5_requireStanding_18 : decode cX5_requireStanding 18 = .ok (.dup, 1) := by decide +kernel
theorem dX5_requireStanding_19 : decode cX5_requireStanding 19 = .ok (.ldc_w 276, 3) := by decide +kernel
theorem dX5_requireStanding_22 : decode cX5_requireStanding 22 = .ok (.invokespecial 45, 3) := by decide +kernel
theorem dX5_requireStanding_25 : decode cX5_requireStanding 25 = .ok (.athrow, 1) := by decide +kernel
theorem dX5_requireStanding_26 : decode cX5_requireStanding 26 = .ok (.aload_n 2, 1) := by decide +kernel
theorem dX5_requireStanding_27 : decode cX5_requireStanding 27 = .ok (.areturn, 1) := by decide +kernel
theorem dX5_requireNotGone_0 : decode cX5_requireNotGone 0 = .ok (.aload_n 0, 1) := by decide +kernel
theorem dX5_requireNotGone_1 : decode cX5_requireNotGone 1 = .ok (.iload_n 1, 1) := by decide +kernel
theorem dX5_requireNotGone_2 : decode cX5_requireNotGone 2 = .ok (.invokevirtual 81, 3) := by decide +kernel
theorem dX5_requireNotGone_5 : decode cX5_requireNotGone 5 = .ok (.getfield 87, 3) := by decide +kernel
theorem dX5_requireNotGone_8 : decode cX5_requireNotGone 8 = .ok (.bipush 100, 2) := by decide +kernel
theorem dX5_requireNotGone_10 : decode cX5_requireNotGone 10 = .ok (.if_icmp .ne 14, 3) := by decide +kernel
theorem dX5_requireNotGone_13 : decode cX5_requireNotGone 13 = .ok (.new 41, 3) := by decide +kernel
theorem dX5_requireNotGone_16 : decode cX5_requireNotGone 16 = .ok (.dup, 1) := by decide +kernel
theorem dX5_requireNotGone_17 : decode cX5_requireNotGone 17 = .ok (.ldc_w 278, 3) := by decide +kernel
theorem dX5_requireNotGone_20 : decode cX5_requireNotGone 20 = .ok (.invokespecial 45, 3) := by decide +kernel
theorem dX5_requireNotGone_23 : decode cX5_requireNotGone 23 = .ok (.athrow, 1) := by decide +kernel
theorem dX5_requireNotGone_24 : decode cX5_requireNotGone 24 = .ok (.return_, 1) := by decide +kernel
theorem dX5_requireTrace_0 : decode cX5_requireTrace 0 = .ok (.aload_n 0, 1) := by decide +kernel
theorem dX5_requireTrace_1 : decode cX5_requireTrace 1 = .ok (.iload_n 1, 1) := by decide +kernel
theorem dX5_requireTrace_2 : decode cX5_requireTrace 2 = .ok (.invokevirtual 81, 3) := by decide +kernel
theorem dX5_requireTrace_5 : decode cX5_requireTrace 5 = .ok (.getfield 280, 3) := by decide +kernel
theorem dX5_requireTrace_8 : decode cX5_requireTrace 8 = .ok (.astore_n 2, 1) := by decide +kernel
theorem dX5_requireTrace_9 : decode cX5_requireTrace 9 = .ok (.aload_n 2, 1) := by decide +kernel
theorem dX5_requireTrace_10 : decode cX5_requireTrace 10 = .ok (.ifnonnull 14, 3) := by decide +kernel
theorem dX5_requireTrace_13 : decode cX5_requireTrace 13 = .ok (.new 213, 3) := by decide +kernel
theorem dX5_requireTrace_16 : decode cX5_requireTrace 16 = .ok (.dup, 1) := by decide +kernel
theorem dX5_requireTrace_17 : decode cX5_requireTrace 17 = .ok (.ldc_w 274, 3) := by decide +kernel
theorem dX5_requireTrace_20 : decode cX5_requireTrace 20 = .ok (.invokespecial 217, 3) := by decide +kernel
theorem dX5_requireTrace_23 : decode cX5_requireTrace 23 = .ok (.athrow, 1) := by decide +kernel
theorem dX5_requireTrace_24 : decode cX5_requireTrace 24 = .ok (.aload_n 2, 1) := by decide +kernel
theorem dX5_requireTrace_25 : decode cX5_requireTrace 25 = .ok (.areturn, 1) := by decide +kernel
theorem dX5_requirePlace_0 : decode cX5_requirePlace 0 = .ok (.aload_n 0, 1) := by decide +kernel
theorem dX5_requirePlace_1 : decode cX5_requirePlace 1 = .ok (.iload_n 1, 1) := by decide +kernel
theorem dX5_requirePlace_2 : decode cX5_requirePlace 2 = .ok (.invokevirtual 284, 3) := by decide +kernel
theorem dX5_requirePlace_5 : decode cX5_requirePlace 5 = .ok (.ifCond .ne 14, 3) := by decide +kernel
theorem dX5_requirePlace_8 : decode cX5_requirePlace 8 = .ok (.new 230, 3) := by decide +kernel
theorem dX5_requirePlace_11 : decode cX5_requirePlace 11 = .ok (.dup, 1) := by decide +kernel
theorem dX5_requirePlace_12 : decode cX5_requirePlace 12 = .ok (.ldc_w 285, 3) := by decide +kernel
theorem dX5_requirePlace_15 : decode cX5_requirePlace 15 = .ok (.invokespecial 234, 3) := by decide +kernel
theorem dX5_requirePlace_18 : decode cX5_requirePlace 18 = .ok (.athrow, 1) := by decide +kernel
theorem dX5_requirePlace_19 : decode cX5_requirePlace 19 = .ok (.aload_n 0, 1) := by decide +kernel
theorem dX5_requirePlace_20 : decode cX5_requirePlace 20 = .ok (.iload_n 1, 1) := by decide +kernel
theorem dX5_requirePlace_21 : decode cX5_requirePlace 21 = .ok (.invokevirtual 210, 3) := by decide +kernel
theorem dX5_requirePlace_24 : decode cX5_requirePlace 24 = .ok (.ireturn, 1) := by decide +kernel
theorem dX6_init_0 : decode cX6_init 0 = .ok (.aload_n 0, 1) := by decide +kernel
theorem dX6_init_1 : decode cX6_init 1 = .ok (.invokespecial 1, 3) := by decide +kernel
theorem dX6_init_4 : decode cX6_init 4 = .ok (.aload_n 0, 1) := by decide +kernel
theorem dX6_init_5 : decode cX6_init 5 = .ok (.bipush 8, 2) := by decide +kernel
theorem dX6_init_7 : decode cX6_init 7 = .ok (.newarray .int, 2) := by decide +kernel
theorem dX6_init_9 : decode cX6_init 9 = .ok (.putfield 7, 3) := by decide +kernel
theorem dX6_init_12 : decode cX6_init 12 = .ok (.aload_n 0, 1) := by decide +kernel
theorem dX6_init_13 : decode cX6_init 13 = .ok (.bipush 8, 2) := by decide +kernel
theorem dX6_init_15 : decode cX6_init 15 = .ok (.newarray .int, 2) := by decide +kernel
theorem dX6_init_17 : decode cX6_init 17 = .ok (.putfield 13, 3) := by decide +kernel
theorem dX6_init_20 : decode cX6_init 20 = .ok (.aload_n 0, 1) := by decide +kernel
theorem dX6_init_21 : decode cX6_init 21 = .ok (.bipush 8, 2) := by decide +kernel
theorem dX6_init_23 : decode cX6_init 23 = .ok (.newarray .int, 2) := by decide +kernel
theorem dX6_init_25 : decode cX6_init 25 = .ok (.putfield 16, 3) := by decide +kernel
theorem dX6_init_28 : decode cX6_init 28 = .ok (.aload_n 0, 1) := by decide +kernel
theorem dX6_init_29 : decode cX6_init 29 = .ok (.bipush 8, 2) := by decide +kernel
theorem dX6_init_31 : decode cX6_init 31 = .ok (.newarray .int, 2) := by decide +kernel
theorem dX6_init_33 : decode cX6_init 33 = .ok (.putfield 19, 3) := by decide +kernel
theorem dX6_init_36 : decode cX6_init 36 = .ok (.aload_n 0, 1) := by decide +kernel
theorem dX6_init_37 : decode cX6_init 37 = .ok (.bipush 8, 2) := by decide +kernel
theorem dX6_init_39 : decode cX6_init 39 = .ok (.newarray .int, 2) := by decide +kernel
theorem dX6_init_41 : decode cX6_init 41 = .ok (.putfield 22, 3) := by decide +kernel
theorem dX6_init_44 : decode cX6_init 44 = .ok (.aload_n 0, 1) := by decide +kernel
theorem dX6_init_45 : decode cX6_init 45 = .ok (.bipush 10, 2) := by decide +kernel
theorem dX6_init_47 : decode cX6_init 47 = .ok (.putfield 25, 3) := by decide +kernel
theorem dX6_init_50 : decode cX6_init 50 = .ok (.aload_n 0, 1) := by decide +kernel
theorem dX6_init_51 : decode cX6_init 51 = .ok (.bipush 30, 2) := by decide +kernel
theorem dX6_init_53 : decode cX6_init 53 = .ok (.newarray .int, 2) := by decide +kernel
theorem dX6_init_55 : decode cX6_init 55 = .ok (.putfield 29, 3) := by decide +kernel
theorem dX6_init_58 : decode cX6_init 58 = .ok (.aload_n 0, 1) := by decide +kernel
theorem dX6_init_59 : decode cX6_init 59 = .ok (.bipush 30, 2) := by decide +kernel
theorem dX6_init_61 : decode cX6_init 61 = .ok (.newarray .int, 2) := by decide +kernel
theorem dX6_init_63 : decode cX6_init 63 = .ok (.putfield 32, 3) := by decide +kernel
theorem dX6_init_66 : decode cX6_init 66 = .ok (.aload_n 0, 1) := by decide +kernel
theorem dX6_init_67 : decode cX6_init 67 = .ok (.bipush 30, 2) := by decide +kernel
theorem dX6_init_69 : decode cX6_init 69 = .ok (.newarray .int, 2) := by decide +kernel
theorem dX6_init_71 : decode cX6_init 71 = .ok (.putfield 35, 3) := by decide +kernel
theorem dX6_init_74 : decode cX6_init 74 = .ok (.aload_n 0, 1) := by decide +kernel
theorem dX6_init_75 : decode cX6_init 75 = .ok (.bipush 30, 2) := by decide +kernel
theorem dX6_init_77 : decode cX6_init 77 = .ok (.newarray .int, 2) := by decide +kernel
theorem dX6_init_79 : decode cX6_init 79 = .ok (.putfield 38, 3) := by decide +kernel
theorem dX6_init_82 : decode cX6_init 82 = .ok (.aload_n 0, 1) := by decide +kernel
theorem dX6_init_83 : decode cX6_init 83 = .ok (.sipush 237, 3) := by decide +kernel
theorem dX6_init_86 : decode cX6_init 86 = .ok (.newarray .int, 2) := by decide +kernel
theorem dX6_init_88 : decode cX6_init 88 = .ok (.putfield 41, 3) := by decide +kernel
theorem dX6_init_91 : decode cX6_init 91 = .ok (.aload_n 0, 1) := by decide +kernel
theorem dX6_init_92 : decode cX6_init 92 = .ok (.sipush 237, 3) := by decide +kernel
theorem dX6_init_95 : decode cX6_init 95 = .ok (.newarray .int, 2) := by decide +kernel
theorem dX6_init_97 : decode cX6_init 97 = .ok (.putfield 44, 3) := by decide +kernel
theorem dX6_init_100 : decode cX6_init 100 = .ok (.aload_n 0, 1) := by decide +kernel
theorem dX6_init_101 : decode cX6_init 101 = .ok (.bipush 64, 2) := by decide +kernel
theorem dX6_init_103 : decode cX6_init 103 = .ok (.newarray .char, 2) := by decide +kernel
theorem dX6_init_105 : decode cX6_init 105 = .ok (.putfield 47, 3) := by decide +kernel
theorem dX6_init_108 : decode cX6_init 108 = .ok (.aload_n 0, 1) := by decide +kernel
theorem dX6_init_109 : decode cX6_init 109 = .ok (.bipush 64, 2) := by decide +kernel
theorem dX6_init_111 : decode cX6_init 111 = .ok (.newarray .int, 2) := by decide +kernel
theorem dX6_init_113 : decode cX6_init 113 = .ok (.putfield 51, 3) := by decide +kernel
theorem dX6_init_116 : decode cX6_init 116 = .ok (.return_, 1) := by decide +kernel
theorem dX6_thrown_0 : decode cX6_thrown 0 = .ok (.aload_n 0, 1) := by decide +kernel
theorem dX6_thrown_1 : decode cX6_thrown 1 = .ok (.getfield 54, 3) := by decide +kernel
theorem dX6_thrown_4 : decode cX6_thrown 4 = .ok (.ireturn, 1) := by decide +kernel
theorem dX6_in_0 : decode cX6_in 0 = .ok (.lload_n 0, 1) := by decide +kernel
theorem dX6_in_1 : decode cX6_in 1 = .ok (.lload_n 2, 1) := by decide +kernel
theorem dX6_in_2 : decode cX6_in 2 = .ok (.lcmp, 1) := by decide +kernel
theorem dX6_in_3 : decode cX6_in 3 = .ok (.ifCond .lt 14, 3) := by decide +kernel
theorem dX6_in_6 : decode cX6_in 6 = .ok (.lload_n 0, 1) := by decide +kernel
theorem dX6_in_7 : decode cX6_in 7 = .ok (.lload 4, 2) := by decide +kernel
theorem dX6_in_9 : decode cX6_in 9 = .ok (.lcmp, 1) := by decide +kernel
theorem dX6_in_10 : decode cX6_in 10 = .ok (.ifCond .gt 7, 3) := by decide +kernel
theorem dX6_in_13 : decode cX6_in 13 = .ok (.iconst 1, 1) := by decide +kernel
theorem dX6_in_14 : decode cX6_in 14 = .ok (.goto 4, 3) := by decide +kernel
theorem dX6_in_17 : decode cX6_in 17 = .ok (.iconst 0, 1) := by decide +kernel
theorem dX6_in_18 : decode cX6_in 18 = .ok (.ireturn, 1) := by decide +kernel
theorem dX6_addStation_0 : decode cX6_addStation 0 = .ok (.iload_n 1, 1) := by decide +kernel
theorem dX6_addStation_1 : decode cX6_addStation 1 = .ok (.i2l, 1) := by decide +kernel
theorem dX6_addStation_2 : decode cX6_addStation 2 = .ok (.lconst 1, 1) := by decide +kernel
theorem dX6_addStation_3 : decode cX6_addStation 3 = .ok (.ldc2_w 57, 3) := by decide +kernel
theorem dX6_addStation_6 : decode cX6_addStation 6 = .ok (.invokestatic 59, 3) := by decide +kernel
theorem dX6_addStation_9 : decode cX6_addStation 9 = .ok (.ifCond .eq 53, 3) := by decide +kernel
theorem dX6_addStation_12 : decode cX6_addStation 12 = .ok (.iload_n 2, 1) := by decide +kernel
theorem dX6_addStation_13 : decode cX6_addStation 13 = .ok (.i2l, 1) := by decide +kernel
theorem dX6_addStation_14 : decode cX6_addStation 14 = .ok (.ldc2_w 63, 3) := by decide +kernel
theorem dX6_addStation_17 : decode cX6_addStation 17 = .ok (.ldc2_w 65, 3) := by decide +kernel
theorem dX6_addStation_20 : decode cX6_addStation 20 = .ok (.invokestatic 59, 3) := by decide +kernel
theorem dX6_addStation_23 : decode cX6_addStation 23 = .ok (.ifCond .eq 39, 3) := by decide +kernel
theorem dX6_addStation_26 : decode cX6_addStation 26 = .ok (.iload_n 2, 1) := by decide +kernel
theorem dX6_addStation_27 : decode cX6_addStation 27 = .ok (.iconst (-1), 1) := by decide +kernel
theorem dX6_addStation_28 : decode cX6_addStation 28 = .ok (.if_icmp .eq 30, 3) := by decide +kernel
theorem dX6_addStation_31 : decode cX6_addStation 31 = .ok (.iload_n 3, 1) := by decide +kernel
theorem dX6_addStation_32 : decode cX6_addStation 32 = .ok (.i2l, 1) := by decide +kernel
theorem dX6_addStation_33 : decode cX6_addStation 33 = .ok (.lconst 1, 1) := by decide +kernel
theorem dX6_addStation_34 : decode cX6_addStation 34 = .ok (.ldc2_w 67, 3) := by decide +kernel
theorem dX6_addStation_37 : decode cX6_addStation 37 = .ok (.invokestatic 59, 3) := by decide +kernel
theorem dX6_addStation_40 : decode cX6_addStation 40 = .ok (.ifCond .eq 22, 3) := by decide +kernel
theorem dX6_addStation_43 : decode cX6_addStation 43 = .ok (.iload 4, 2) := by decide +kernel
theorem dX6_addStation_45 : decode cX6_addStation 45 = .ok (.i2l, 1) := by decide +kernel
theorem dX6_addStation_46 : decode cX6_addStation 46 = .ok (.ldc2_w 67, 3) := by decide +kernel
theorem dX6_addStation_49 : decode cX6_addStation 49 = .ok (.ldc2_w 69, 3) := by decide +kernel
theorem dX6_addStation_52 : decode cX6_addStation 52 = .ok (.invokestatic 59, 3) := by decide +kernel
theorem dX6_addStation_55 : decode cX6_addStation 55 = .ok (.ifCond .eq 7, 3) := by decide +kernel
theorem dX6_addStation_58 : decode cX6_addStation 58 = .ok (.iconst 1, 1) := by decide +kernel
theorem dX6_addStation_59 : decode cX6_addStation 59 = .ok (.goto 4, 3) := by decide +kernel
theorem dX6_addStation_62 : decode cX6_addStation 62 = .ok (.iconst 0, 1) := by decide +kernel
theorem dX6_addStation_63 : decode cX6_addStation 63 = .ok (.istore 5, 2) := by decide +kernel
theorem dX6_addStation_65 : decode cX6_addStation 65 = .ok (.aload_n 0, 1) := by decide +kernel
theorem dX6_addStation_66 : decode cX6_addStation 66 = .ok (.iload 5, 2) := by decide +kernel
theorem dX6_addStation_68 : decode cX6_addStation 68 = .ok (.ifCond .ne 7, 3) := by decide +kernel
theorem dX6_addStation_71 : decode cX6_addStation 71 = .ok (.iconst 1, 1) := by decide +kernel
theorem dX6_addStation_72 : decode cX6_addStation 72 = .ok (.goto 28, 3) := by decide +kernel
theorem dX6_addStation_75 : decode cX6_addStation 75 = .ok (.aload_n 0, 1) := by decide +kernel
theorem dX6_addStation_76 : decode cX6_addStation 76 = .ok (.getfield 71, 3) := by decide +kernel
theorem dX6_addStation_79 : decode cX6_addStation 79 = .ok (.bipush 8, 2) := by decide +kernel
theorem dX6_addStation_81 : decode cX6_addStation 81 = .ok (.if_icmp .eq 14, 3) := by decide +kernel
theorem dX6_addStation_84 : decode cX6_addStation 84 = .ok (.aload_n 0, 1) := by decide +kernel
theorem dX6_addStation_85 : decode cX6_addStation 85 = .ok (.getfield 41, 3) := by decide +kernel
theorem dX6_addStation_88 : decode cX6_addStation 88 = .ok (.sipush 232, 3) := by decide +kernel
theorem dX6_addStation_91 : decode cX6_addStation 91 = .ok (.iaload, 1) := by decide +kernel
theorem dX6_addStation_92 : decode cX6_addStation 92 = .ok (.ifCond .le 7, 3) := by decide +kernel
theorem dX6_addStation_95 : decode cX6_addStation 95 = .ok (.iconst 2, 1) := by decide +kernel
theorem dX6_addStation_96 : decode cX6_addStation 96 = .ok (.goto 4, 3) := by decide +kernel
theorem dX6_addStation_99 : decode cX6_addStation 99 = .ok (.iconst 0, 1) := by decide +kernel
theorem dX6_addStation_100 : decode cX6_addStation 100 = .ok (.putfield 54, 3) := by decide +kernel
theorem dX6_addStation_103 : decode cX6_addStation 103 = .ok (.aload_n 0, 1) := by decide +kernel
theorem dX6_addStation_104 : decode cX6_addStation 104 = .ok (.getfield 54, 3) := by decide +kernel
theorem dX6_addStation_107 : decode cX6_addStation 107 = .ok (.ifCond .le 5, 3) := by decide +kernel
theorem dX6_addStation_110 : decode cX6_addStation 110 = .ok (.iconst (-1), 1) := by decide +kernel
theorem dX6_addStation_111 : decode cX6_addStation 111 = .ok (.ireturn, 1) := by decide +kernel
theorem dX6_addStation_112 : decode cX6_addStation 112 = .ok (.aload_n 0, 1) := by decide +kernel
theorem dX6_addStation_113 : decode cX6_addStation 113 = .ok (.getfield 7, 3) := by decide +kernel
theorem dX6_addStation_116 : decode cX6_addStation 116 = .ok (.aload_n 0, 1) := by decide +kernel
theorem dX6_addStation_117 : decode cX6_addStation 117 = .ok (.getfield 71, 3) := by decide +kernel
theorem dX6_addStation_120 : decode cX6_addStation 120 = .ok (.iload_n 1, 1) := by decide +kernel
theorem dX6_addStation_121 : decode cX6_addStation 121 = .ok (.iastore, 1) := by decide +kernel
theorem dX6_addStation_122 : decode cX6_addStation 122 = .ok (.aload_n 0, 1) := by decide +kernel
theorem dX6_addStation_123 : decode cX6_addStation 123 = .ok (.getfield 13, 3) := by decide +kernel
theorem dX6_addStation_126 : decode cX6_addStation 126 = .ok (.aload_n 0, 1) := by decide +kernel
theorem dX6_addStation_127 : decode cX6_addStation 127 = .ok (.getfield 71, 3) := by decide +kernel
theorem dX6_addStation_130 : decode cX6_addStation 130 = .ok (.iload_n 2, 1) := by decide +kernel
theorem dX6_addStation_131 : decode cX6_addStation 131 = .ok (.iastore, 1) := by decide +kernel
theorem dX6_addStation_132 : decode cX6_addStation 132 = .ok (.aload_n 0, 1) := by decide +kernel
theorem dX6_addStation_133 : decode cX6_addStation 133 = .ok (.getfield 16, 3) := by decide +kernel
theorem dX6_addStation_136 : decode cX6_addStation 136 = .ok (.aload_n 0, 1) := by decide +kernel
theorem dX6_addStation_137 : decode cX6_addStation 137 = .ok (.getfield 71, 3) := by decide +kernel
theorem dX6_addStation_140 : decode cX6_addStation 140 = .ok (.iload_n 3, 1) := by decide +kernel
theorem dX6_addStation_141 : decode cX6_addStation 141 = .ok (.iastore, 1) := by decide +kernel
theorem dX6_addStation_142 : decode cX6_addStation 142 = .ok (.aload_n 0, 1) := by decide +kernel
theorem dX6_addStation_143 : decode cX6_addStation 143 = .ok (.getfield 19, 3) := by decide +kernel
theorem dX6_addStation_146 : decode cX6_addStation 146 = .ok (.aload_n 0, 1) := by decide +kernel
theorem dX6_addStation_147 : decode cX6_addStation 147 = .ok (.getfield 71, 3) := by decide +kernel
theorem dX6_addStation_150 : decode cX6_addStation 150 = .ok (.iload 4, 2) := by decide +kernel
theorem dX6_addStation_152 : decode cX6_addStation 152 = .ok (.iastore, 1) := by decide +kernel
theorem dX6_addStation_153 : decode cX6_addStation 153 = .ok (.aload_n 0, 1) := by decide +kernel
theorem dX6_addStation_154 : decode cX6_addStation 154 = .ok (.getfield 41, 3) := by decide +kernel
theorem dX6_addStation_157 : decode cX6_addStation 157 = .ok (.bipush 14, 2) := by decide +kernel
theorem dX6_addStation_159 : decode cX6_addStation 159 = .ok (.aload_n 0, 1) := by decide +kernel
theorem dX6_addStation_160 : decode cX6_addStation 160 = .ok (.getfield 71, 3) := by decide +kernel
theorem dX6_addStation_163 : decode cX6_addStation 163 = .ok (.iadd, 1) := by decide +kernel
theorem dX6_addStation_164 : decode cX6_addStation 164 = .ok (.iconst (-1), 1) := by decide +kernel
theorem dX6_addStation_165 : decode cX6_addStation 165 = .ok (.iastore, 1) := by decide +kernel
theorem dX6_addStation_166 : decode cX6_addStation 166 = .ok (.aload_n 0, 1) := by decide +kernel
theorem dX6_addStation_167 : decode cX6_addStation 167 = .ok (.dup, 1) := by decide +kernel
theorem dX6_addStation_168 : decode cX6_addStation 168 = .ok (.getfield 71, 3) := by decide +kernel
theorem dX6_addStation_171 : decode cX6_addStation 171 = .ok (.iconst 1, 1) := by decide +kernel
theorem dX6_addStation_172 : decode cX6_addStation 172 = .ok (.iadd, 1) := by decide +kernel
theorem dX6_addStation_173 : decode cX6_addStation 173 = .ok (.putfield 71, 3) := by decide +kernel
theorem dX6_addStation_176 : decode cX6_addStation 176 = .ok (.aload_n 0, 1) := by decide +kernel
theorem dX6_addStation_177 : decode cX6_addStation 177 = .ok (.getfield 71, 3) := by decide +kernel
theorem dX6_addStation_180 : decode cX6_addStation 180 = .ok (.iconst 1, 1) := by decide +kernel
theorem dX6_addStation_181 : decode cX6_addStation 181 = .ok (.isub, 1) := by decide +kernel
theorem dX6_addStation_182 : decode cX6_addStation 182 = .ok (.ireturn, 1) := by decide +kernel
theorem dX6_isPart_0 : decode cX6_isPart 0 = .ok (.iload_n 0, 1) := by decide +kernel
theorem dX6_isPart_1 : decode cX6_isPart 1 = .ok (.i2l, 1) := by decide +kernel
theorem dX6_isPart_2 : decode cX6_isPart 2 = .ok (.lconst 0, 1) := by decide +kernel
theorem dX6_isPart_3 : decode cX6_isPart 3 = .ok (.ldc2_w 65, 3) := by decide +kernel
theorem dX6_isPart_6 : decode cX6_isPart 6 = .ok (.invokestatic 59, 3) := by decide +kernel
theorem dX6_isPart_9 : decode cX6_isPart 9 = .ok (.ireturn, 1) := by decide +kernel
theorem dX6_supply_0 : decode cX6_supply 0 = .ok (.aload_n 0, 1) := by decide +kernel
theorem dX6_supply_1 : decode cX6_supply 1 = .ok (.iload_n 1, 1) := by decide +kernel
theorem dX6_supply_2 : decode cX6_supply 2 = .ok (.invokestatic 74, 3) := by decide +kernel
theorem dX6_supply_5 : decode cX6_supply 5 = .ok (.ifCond .ne 7, 3) := by decide +kernel
theorem dX6_supply_8 : decode cX6_supply 8 = .ok (.iconst 1, 1) := by decide +kernel
theorem dX6_supply_9 : decode cX6_supply 9 = .ok (.goto 38, 3) := by decide +kernel
theorem dX6_supply_12 : decode cX6_supply 12 = .ok (.iload_n 2, 1) := by decide +kernel
theorem dX6_supply_13 : decode cX6_supply 13 = .ok (.i2l, 1) := by decide +kernel
theorem dX6_supply_14 : decode cX6_supply 14 = .ok (.lconst 1, 1) := by decide +kernel
theorem dX6_supply_15 : decode cX6_supply 15 = .ok (.ldc2_w 78, 3) := by decide +kernel
theorem dX6_supply_18 : decode cX6_supply 18 = .ok (.invokestatic 59, 3) := by decide +kernel
theorem dX6_supply_21 : decode cX6_supply 21 = .ok (.ifCond .ne 7, 3) := by decide +kernel
theorem dX6_supply_24 : decode cX6_supply 24 = .ok (.iconst 2, 1) := by decide +kernel
theorem dX6_supply_25 : decode cX6_supply 25 = .ok (.goto 22, 3) := by decide +kernel
theorem dX6_supply_28 : decode cX6_supply 28 = .ok (.aload_n 0, 1) := by decide +kernel
theorem dX6_supply_29 : decode cX6_supply 29 = .ok (.getfield 41, 3) := by decide +kernel
theorem dX6_supply_32 : decode cX6_supply 32 = .ok (.iload_n 1, 1) := by decide +kernel
theorem dX6_supply_33 : decode cX6_supply 33 = .ok (.iaload, 1) := by decide +kernel
theorem dX6_supply_34 : decode cX6_supply 34 = .ok (.iload_n 2, 1) := by decide +kernel
theorem dX6_supply_35 : decode cX6_supply 35 = .ok (.iadd, 1) := by decide +kernel
theorem dX6_supply_36 : decode cX6_supply 36 = .ok (.sipush 999, 3) := by decide +kernel
theorem dX6_supply_39 : decode cX6_supply 39 = .ok (.if_icmp .le 7, 3) := by decide +kernel
theorem dX6_supply_42 : decode cX6_supply 42 = .ok (.iconst 3, 1) := by decide +kernel
theorem dX6_supply_43 : decode cX6_supply 43 = .ok (.goto 4, 3) := by decide +kernel
theorem dX6_supply_46 : decode cX6_supply 46 = .ok (.iconst 0, 1) := by decide +kernel
theorem dX6_supply_47 : decode cX6_supply 47 = .ok (.putfield 54, 3) := by decide +kernel
theorem dX6_supply_50 : decode cX6_supply 50 = .ok (.aload_n 0, 1) := by decide +kernel
theorem dX6_supply_51 : decode cX6_supply 51 = .ok (.getfield 54, 3) := by decide +kernel
theorem dX6_supply_54 : decode cX6_supply 54 = .ok (.ifCond .le 5, 3) := by decide +kernel
theorem dX6_supply_57 : decode cX6_supply 57 = .ok (.iconst (-1), 1) := by decide +kernel
theorem dX6_supply_58 : decode cX6_supply 58 = .ok (.ireturn, 1) := by decide +kernel
theorem dX6_supply_59 : decode cX6_supply 59 = .ok (.aload_n 0, 1) := by decide +kernel
theorem dX6_supply_60 : decode cX6_supply 60 = .ok (.getfield 41, 3) := by decide +kernel
theorem dX6_supply_63 : decode cX6_supply 63 = .ok (.iload_n 1, 1) := by decide +kernel
theorem dX6_supply_64 : decode cX6_supply 64 = .ok (.dup2, 1) := by decide +kernel
theorem dX6_supply_65 : decode cX6_supply 65 = .ok (.iaload, 1) := by decide +kernel
theorem dX6_supply_66 : decode cX6_supply 66 = .ok (.iload_n 2, 1) := by decide +kernel
theorem dX6_supply_67 : decode cX6_supply 67 = .ok (.iadd, 1) := by decide +kernel
theorem dX6_supply_68 : decode cX6_supply 68 = .ok (.iastore, 1) := by decide +kernel
theorem dX6_supply_69 : decode cX6_supply 69 = .ok (.aload_n 0, 1) := by decide +kernel
theorem dX6_supply_70 : decode cX6_supply 70 = .ok (.getfield 41, 3) := by decide +kernel
theorem dX6_supply_73 : decode cX6_supply 73 = .ok (.iload_n 1, 1) := by decide +kernel
theorem dX6_supply_74 : decode cX6_supply 74 = .ok (.iaload, 1) := by decide +kernel
theorem dX6_supply_75 : decode cX6_supply 75 = .ok (.ireturn, 1) := by decide +kernel
theorem dX6_setPeriod_0 : decode cX6_setPeriod 0 = .ok (.aload_n 0, 1) := by decide +kernel
theorem dX6_setPeriod_1 : decode cX6_setPeriod 1 = .ok (.iload_n 1, 1) := by decide +kernel
theorem dX6_setPeriod_2 : decode cX6_setPeriod 2 = .ok (.i2l, 1) := by decide +kernel
theorem dX6_setPeriod_3 : decode cX6_setPeriod 3 = .ok (.lconst 1, 1) := by decide +kernel
theorem dX6_setPeriod_4 : decode cX6_setPeriod 4 = .ok (.ldc2_w 80, 3) := by decide +kernel
theorem dX6_setPeriod_7 : decode cX6_setPeriod 7 = .ok (.invokestatic 59, 3) := by decide +kernel
theorem dX6_setPeriod_10 : decode cX6_setPeriod 10 = .ok (.ifCond .eq 7, 3) := by decide +kernel
theorem dX6_setPeriod_13 : decode cX6_setPeriod 13 = .ok (.iconst 0, 1) := by decide +kernel
theorem dX6_setPeriod_14 : decode cX6_setPeriod 14 = .ok (.goto 4, 3) := by decide +kernel
theorem dX6_setPeriod_17 : decode cX6_setPeriod 17 = .ok (.iconst 1, 1) := by decide +kernel
theorem dX6_setPeriod_18 : decode cX6_setPeriod 18 = .ok (.putfield 54, 3) := by decide +kernel
theorem dX6_setPeriod_21 : decode cX6_setPeriod 21 = .ok (.aload_n 0, 1) := by decide +kernel
theorem dX6_setPeriod_22 : decode cX6_setPeriod 22 = .ok (.getfield 25, 3) := by decide +kernel
theorem dX6_setPeriod_25 : decode cX6_setPeriod 25 = .ok (.istore_n 2, 1) := by decide +kernel
theorem dX6_setPeriod_26 : decode cX6_setPeriod 26 = .ok (.aload_n 0, 1) := by decide +kernel
theorem dX6_setPeriod_27 : decode cX6_setPeriod 27 = .ok (.aload_n 0, 1) := by decide +kernel
theorem dX6_setPeriod_28 : decode cX6_setPeriod 28 = .ok (.getfield 54, 3) := by decide +kernel
theorem dX6_setPeriod_31 : decode cX6_setPeriod 31 = .ok (.ifCond .ne 7, 3) := by decide +kernel
theorem dX6_setPeriod_34 : decode cX6_setPeriod 34 = .ok (.iload_n 1, 1) := by decide +kernel
theorem dX6_setPeriod_35 : decode cX6_setPeriod 35 = .ok (.goto 7, 3) := by decide +kernel
theorem dX6_setPeriod_38 : decode cX6_setPeriod 38 = .ok (.aload_n 0, 1) := by decide +kernel
theorem dX6_setPeriod_39 : decode cX6_setPeriod 39 = .ok (.getfield 25, 3) := by decide +kernel
theorem dX6_setPeriod_42 : decode cX6_setPeriod 42 = .ok (.putfield 25, 3) := by decide +kernel
theorem dX6_setPeriod_45 : decode cX6_setPeriod 45 = .ok (.aload_n 0, 1) := by decide +kernel
theorem dX6_setPeriod_46 : decode cX6_setPeriod 46 = .ok (.getfield 54, 3) := by decide +kernel
theorem dX6_setPeriod_49 : decode cX6_setPeriod 49 = .ok (.ifCond .ne 7, 3) := by decide +kernel
theorem dX6_setPeriod_52 : decode cX6_setPeriod 52 = .ok (.iload_n 2, 1) := by decide +kernel
theorem dX6_setPeriod_53 : decode cX6_setPeriod 53 = .ok (.goto 4, 3) := by decide +kernel
theorem dX6_setPeriod_56 : decode cX6_setPeriod 56 = .ok (.iconst (-1), 1) := by decide +kernel
theorem dX6_setPeriod_57 : decode cX6_setPeriod 57 = .ok (.ireturn, 1) := by decide +kernel
theorem dX6_addCar_0 : decode cX6_addCar 0 = .ok (.aload_n 0, 1) := by decide +kernel
theorem dX6_addCar_1 : decode cX6_addCar 1 = .ok (.iload_n 1, 1) := by decide +kernel
theorem dX6_addCar_2 : decode cX6_addCar 2 = .ok (.i2l, 1) := by decide +kernel
theorem dX6_addCar_3 : decode cX6_addCar 3 = .ok (.lconst 0, 1) := by decide +kernel
theorem dX6_addCar_4 : decode cX6_addCar 4 = .ok (.ldc2_w 82, 3) := by decide +kernel
theorem dX6_addCar_7 : decode cX6_addCar 7 = .ok (.invokestatic 59, 3) := by decide +kernel
theorem dX6_addCar_10 : decode cX6_addCar 10 = .ok (.ifCond .ne 7, 3) := by decide +kernel
theorem dX6_addCar_13 : decode cX6_addCar 13 = .ok (.iconst 1, 1) := by decide +kernel
theorem dX6_addCar_14 : decode cX6_addCar 14 = .ok (.goto 24, 3) := by decide +kernel
theorem dX6_addCar_17 : decode cX6_addCar 17 = .ok (.aload_n 0, 1) := by decide +kernel
theorem dX6_addCar_18 : decode cX6_addCar 18 = .ok (.getfield 84, 3) := by decide +kernel
theorem dX6_addCar_21 : decode cX6_addCar 21 = .ok (.bipush 30, 2) := by decide +kernel
theorem dX6_addCar_23 : decode cX6_addCar 23 = .ok (.if_icmp .eq 10, 3) := by decide +kernel
theorem dX6_addCar_26 : decode cX6_addCar 26 = .ok (.aload_n 0, 1) := by decide +kernel
theorem dX6_addCar_27 : decode cX6_addCar 27 = .ok (.getfield 71, 3) := by decide +kernel
theorem dX6_addCar_30 : decode cX6_addCar 30 = .ok (.ifCond .ne 7, 3) := by decide +kernel
theorem dX6_addCar_33 : decode cX6_addCar 33 = .ok (.iconst 2, 1) := by decide +kernel
theorem dX6_addCar_34 : decode cX6_addCar 34 = .ok (.goto 4, 3) := by decide +kernel
theorem dX6_addCar_37 : decode cX6_addCar 37 = .ok (.iconst 0, 1) := by decide +kernel
theorem dX6_addCar_38 : decode cX6_addCar 38 = .ok (.putfield 54, 3) := by decide +kernel
theorem dX6_addCar_41 : decode cX6_addCar 41 = .ok (.aload_n 0, 1) := by decide +kernel
theorem dX6_addCar_42 : decode cX6_addCar 42 = .ok (.getfield 54, 3) := by decide +kernel
theorem dX6_addCar_45 : decode cX6_addCar 45 = .ok (.ifCond .le 5, 3) := by decide +kernel
theorem dX6_addCar_48 : decode cX6_addCar 48 = .ok (.iconst (-1), 1) := by decide +kernel
theorem dX6_addCar_49 : decode cX6_addCar 49 = .ok (.ireturn, 1) := by decide +kernel
theorem dX6_addCar_50 : decode cX6_addCar 50 = .ok (.aload_n 0, 1) := by decide +kernel
theorem dX6_addCar_51 : decode cX6_addCar 51 = .ok (.getfield 29, 3) := by decide +kernel
theorem dX6_addCar_54 : decode cX6_addCar 54 = .ok (.aload_n 0, 1) := by decide +kernel
theorem dX6_addCar_55 : decode cX6_addCar 55 = .ok (.getfield 84, 3) := by decide +kernel
theorem dX6_addCar_58 : decode cX6_addCar 58 = .ok (.iload_n 1, 1) := by decide +kernel
theorem dX6_addCar_59 : decode cX6_addCar 59 = .ok (.iastore, 1) := by decide +kernel
theorem dX6_addCar_60 : decode cX6_addCar 60 = .ok (.aload_n 0, 1) := by decide +kernel
theorem dX6_addCar_61 : decode cX6_addCar 61 = .ok (.getfield 41, 3) := by decide +kernel
theorem dX6_addCar_64 : decode cX6_addCar 64 = .ok (.bipush 82, 2) := by decide +kernel
theorem dX6_addCar_66 : decode cX6_addCar 66 = .ok (.aload_n 0, 1) := by decide +kernel
theorem dX6_addCar_67 : decode cX6_addCar 67 = .ok (.getfield 84, 3) := by decide +kernel
theorem dX6_addCar_70 : decode cX6_addCar 70 = .ok (.iadd, 1) := by decide +kernel
theorem dX6_addCar_71 : decode cX6_addCar 71 = .ok (.bipush 119, 2) := by decide +kernel
theorem dX6_addCar_73 : decode cX6_addCar 73 = .ok (.iastore, 1) := by decide +kernel
theorem dX6_addCar_74 : decode cX6_addCar 74 = .ok (.aload_n 0, 1) := by decide +kernel
theorem dX6_addCar_75 : decode cX6_addCar 75 = .ok (.getfield 41, 3) := by decide +kernel
theorem dX6_addCar_78 : decode cX6_addCar 78 = .ok (.sipush 142, 3) := by decide +kernel
theorem dX6_addCar_81 : decode cX6_addCar 81 = .ok (.aload_n 0, 1) := by decide +kernel
theorem dX6_addCar_82 : decode cX6_addCar 82 = .ok (.getfield 41, 3) := by decide +kernel
theorem dX6_addCar_85 : decode cX6_addCar 85 = .ok (.sipush 233, 3) := by decide +kernel
theorem dX6_addCar_88 : decode cX6_addCar 88 = .ok (.iaload, 1) := by decide +kernel
theorem dX6_addCar_89 : decode cX6_addCar 89 = .ok (.iadd, 1) := by decide +kernel
theorem dX6_addCar_90 : decode cX6_addCar 90 = .ok (.aload_n 0, 1) := by decide +kernel
theorem dX6_addCar_91 : decode cX6_addCar 91 = .ok (.getfield 84, 3) := by decide +kernel
theorem dX6_addCar_94 : decode cX6_addCar 94 = .ok (.iastore, 1) := by decide +kernel
theorem dX6_addCar_95 : decode cX6_addCar 95 = .ok (.aload_n 0, 1) := by decide +kernel
theorem dX6_addCar_96 : decode cX6_addCar 96 = .ok (.getfield 41, 3) := by decide +kernel
theorem dX6_addCar_99 : decode cX6_addCar 99 = .ok (.sipush 233, 3) := by decide +kernel
theorem dX6_addCar_102 : decode cX6_addCar 102 = .ok (.dup2, 1) := by decide +kernel
theorem dX6_addCar_103 : decode cX6_addCar 103 = .ok (.iaload, 1) := by decide +kernel
theorem dX6_addCar_104 : decode cX6_addCar 104 = .ok (.iconst 1, 1) := by decide +kernel
theorem dX6_addCar_105 : decode cX6_addCar 105 = .ok (.iadd, 1) := by decide +kernel
theorem dX6_addCar_106 : decode cX6_addCar 106 = .ok (.iastore, 1) := by decide +kernel
theorem dX6_addCar_107 : decode cX6_addCar 107 = .ok (.aload_n 0, 1) := by decide +kernel
theorem dX6_addCar_108 : decode cX6_addCar 108 = .ok (.dup, 1) := by decide +kernel
theorem dX6_addCar_109 : decode cX6_addCar 109 = .ok (.getfield 84, 3) := by decide +kernel
theorem dX6_addCar_112 : decode cX6_addCar 112 = .ok (.iconst 1, 1) := by decide +kernel
theorem dX6_addCar_113 : decode cX6_addCar 113 = .ok (.iadd, 1) := by decide +kernel
theorem dX6_addCar_114 : decode cX6_addCar 114 = .ok (.putfield 84, 3) := by decide +kernel
theorem dX6_addCar_117 : decode cX6_addCar 117 = .ok (.aload_n 0, 1) := by decide +kernel
theorem dX6_addCar_118 : decode cX6_addCar 118 = .ok (.getfield 84, 3) := by decide +kernel
theorem dX6_addCar_121 : decode cX6_addCar 121 = .ok (.iconst 1, 1) := by decide +kernel
theorem dX6_addCar_122 : decode cX6_addCar 122 = .ok (.isub, 1) := by decide +kernel
theorem dX6_addCar_123 : decode cX6_addCar 123 = .ok (.ireturn, 1) := by decide +kernel
theorem dX6_isCar_0 : decode cX6_isCar 0 = .ok (.iload_n 1, 1) := by decide +kernel
theorem dX6_isCar_1 : decode cX6_isCar 1 = .ok (.i2l, 1) := by decide +kernel
theorem dX6_isCar_2 : decode cX6_isCar 2 = .ok (.lconst 0, 1) := by decide +kernel
theorem dX6_isCar_3 : decode cX6_isCar 3 = .ok (.aload_n 0, 1) := by decide +kernel
theorem dX6_isCar_4 : decode cX6_isCar 4 = .ok (.getfield 84, 3) := by decide +kernel
theorem dX6_isCar_7 : decode cX6_isCar 7 = .ok (.iconst 1, 1) := by decide +kernel
theorem dX6_isCar_8 : decode cX6_isCar 8 = .ok (.isub, 1) := by decide +kernel
theorem dX6_isCar_9 : decode cX6_isCar 9 = .ok (.i2l, 1) := by decide +kernel
theorem dX6_isCar_10 : decode cX6_isCar 10 = .ok (.invokestatic 59, 3) := by decide +kernel
theorem dX6_isCar_13 : decode cX6_isCar 13 = .ok (.ireturn, 1) := by decide +kernel
theorem dX6_waitsAt_0 : decode cX6_waitsAt 0 = .ok (.iconst 0, 1) := by decide +kernel
theorem dX6_waitsAt_1 : decode cX6_waitsAt 1 = .ok (.istore_n 2, 1) := by decide +kernel
theorem dX6_waitsAt_2 : decode cX6_waitsAt 2 = .ok (.aload_n 0, 1) := by decide +kernel
theorem dX6_waitsAt_3 : decode cX6_waitsAt 3 = .ok (.getfield 41, 3) := by decide +kernel
theorem dX6_waitsAt_6 : decode cX6_waitsAt 6 = .ok (.sipush 142, 3) := by decide +kernel
theorem dX6_waitsAt_9 : decode cX6_waitsAt 9 = .ok (.iload_n 2, 1) := by decide +kernel
theorem dX6_waitsAt_10 : decode cX6_waitsAt 10 = .ok (.iadd, 1) := by decide +kernel
theorem dX6_waitsAt_11 : decode cX6_waitsAt 11 = .ok (.iaload, 1) := by decide +kernel
theorem dX6_waitsAt_12 : decode cX6_waitsAt 12 = .ok (.iload_n 1, 1) := by decide +kernel
theorem dX6_waitsAt_13 : decode cX6_waitsAt 13 = .ok (.if_icmp .eq 9, 3) := by decide +kernel
theorem dX6_waitsAt_16 : decode cX6_waitsAt 16 = .ok (.iinc 2 1, 3) := by decide +kernel
theorem dX6_waitsAt_19 : decode cX6_waitsAt 19 = .ok (.goto (-17), 3) := by decide +kernel
theorem dX6_waitsAt_22 : decode cX6_waitsAt 22 = .ok (.iload_n 2, 1) := by decide +kernel
theorem dX6_waitsAt_23 : decode cX6_waitsAt 23 = .ok (.ireturn, 1) := by decide +kernel
theorem dX6_swap_0 : decode cX6_swap 0 = .ok (.aload_n 0, 1) := by decide +kernel
theorem dX6_swap_1 : decode cX6_swap 1 = .ok (.iload_n 1, 1) := by decide +kernel
theorem dX6_swap_2 : decode cX6_swap 2 = .ok (.invokevirtual 87, 3) := by decide +kernel
theorem dX6_swap_5 : decode cX6_swap 5 = .ok (.ifCond .eq 16, 3) := by decide +kernel
theorem dX6_swap_8 : decode cX6_swap 8 = .ok (.aload_n 0, 1) := by decide +kernel
theorem dX6_swap_9 : decode cX6_swap 9 = .ok (.iload_n 2, 1) := by decide +kernel
theorem dX6_swap_10 : decode cX6_swap 10 = .ok (.invokevirtual 87, 3) := by decide +kernel
theorem dX6_swap_13 : decode cX6_swap 13 = .ok (.ifCond .eq 8, 3) := by decide +kernel
theorem dX6_swap_16 : decode cX6_swap 16 = .ok (.iload_n 1, 1) := by decide +kernel
theorem dX6_swap_17 : decode cX6_swap 17 = .ok (.iload_n 2, 1) := by decide +kernel
theorem dX6_swap_18 : decode cX6_swap 18 = .ok (.if_icmp .ne 30, 3) := by decide +kernel
theorem dX6_swap_21 : decode cX6_swap 21 = .ok (.aload_n 0, 1) := by decide +kernel
theorem dX6_swap_22 : decode cX6_swap 22 = .ok (.aload_n 0, 1) := by decide +kernel
theorem dX6_swap_23 : decode cX6_swap 23 = .ok (.iload_n 1, 1) := by decide +kernel
theorem dX6_swap_24 : decode cX6_swap 24 = .ok (.invokevirtual 87, 3) := by decide +kernel
theorem dX6_swap_27 : decode cX6_swap 27 = .ok (.ifCond .eq 11, 3) := by decide +kernel
theorem dX6_swap_30 : decode cX6_swap 30 = .ok (.aload_n 0, 1) := by decide +kernel
theorem dX6_swap_31 : decode cX6_swap 31 = .ok (.iload_n 2, 1) := by decide +kernel
theorem dX6_swap_32 : decode cX6_swap 32 = .ok (.invokevirtual 87, 3) := by decide +kernel
theorem dX6_swap_35 : decode cX6_swap 35 = .ok (.ifCond .ne 7, 3) := by decide +kernel
theorem dX6_swap_38 : decode cX6_swap 38 = .ok (.iconst 1, 1) := by decide +kernel
theorem dX6_swap_39 : decode cX6_swap 39 = .ok (.goto 4, 3) := by decide +kernel
theorem dX6_swap_42 : decode cX6_swap 42 = .ok (.iconst 2, 1) := by decide +kernel
theorem dX6_swap_43 : decode cX6_swap 43 = .ok (.putfield 54, 3) := by decide +kernel
theorem dX6_swap_46 : decode cX6_swap 46 = .ok (.iconst (-1), 1) := by decide +kernel
theorem dX6_swap_47 : decode cX6_swap 47 = .ok (.ireturn, 1) := by decide +kernel
theorem dX6_swap_48 : decode cX6_swap 48 = .ok (.aload_n 0, 1) := by decide +kernel
theorem dX6_swap_49 : decode cX6_swap 49 = .ok (.aload_n 0, 1) := by decide +kernel
theorem dX6_swap_50 : decode cX6_swap 50 = .ok (.getfield 41, 3) := by decide +kernel
theorem dX6_swap_53 : decode cX6_swap 53 = .ok (.bipush 82, 2) := by decide +kernel
theorem dX6_swap_55 : decode cX6_swap 55 = .ok (.iload_n 1, 1) := by decide +kernel
theorem dX6_swap_56 : decode cX6_swap 56 = .ok (.iadd, 1) := by decide +kernel
theorem dX6_swap_57 : decode cX6_swap 57 = .ok (.iaload, 1) := by decide +kernel
theorem dX6_swap_58 : decode cX6_swap 58 = .ok (.bipush 119, 2) := by decide +kernel
theorem dX6_swap_60 : decode cX6_swap 60 = .ok (.if_icmp .ne 21, 3) := by decide +kernel
theorem dX6_swap_63 : decode cX6_swap 63 = .ok (.aload_n 0, 1) := by decide +kernel
theorem dX6_swap_64 : decode cX6_swap 64 = .ok (.getfield 41, 3) := by decide +kernel
theorem dX6_swap_67 : decode cX6_swap 67 = .ok (.bipush 82, 2) := by decide +kernel
theorem dX6_swap_69 : decode cX6_swap 69 = .ok (.iload_n 2, 1) := by decide +kernel
theorem dX6_swap_70 : decode cX6_swap 70 = .ok (.iadd, 1) := by decide +kernel
theorem dX6_swap_71 : decode cX6_swap 71 = .ok (.iaload, 1) := by decide +kernel
theorem dX6_swap_72 : decode cX6_swap 72 = .ok (.bipush 119, 2) := by decide +kernel
theorem dX6_swap_74 : decode cX6_swap 74 = .ok (.if_icmp .ne 7, 3) := by decide +kernel
theorem dX6_swap_77 : decode cX6_swap 77 = .ok (.iconst 0, 1) := by decide +kernel
theorem dX6_swap_78 : decode cX6_swap 78 = .ok (.goto 4, 3) := by decide +kernel
theorem dX6_swap_81 : decode cX6_swap 81 = .ok (.iconst 3, 1) := by decide +kernel
theorem dX6_swap_82 : decode cX6_swap 82 = .ok (.putfield 54, 3) := by decide +kernel
theorem dX6_swap_85 : decode cX6_swap 85 = .ok (.aload_n 0, 1) := by decide +kernel
theorem dX6_swap_86 : decode cX6_swap 86 = .ok (.getfield 54, 3) := by decide +kernel
theorem dX6_swap_89 : decode cX6_swap 89 = .ok (.ifCond .le 5, 3) := by decide +kernel
theorem dX6_swap_92 : decode cX6_swap 92 = .ok (.iconst (-1), 1) := by decide +kernel
theorem dX6_swap_93 : decode cX6_swap 93 = .ok (.ireturn, 1) := by decide +kernel
theorem dX6_swap_94 : decode cX6_swap 94 = .ok (.aload_n 0, 1) := by decide +kernel
theorem dX6_swap_95 : decode cX6_swap 95 = .ok (.iload_n 1, 1) := by decide +kernel
theorem dX6_swap_96 : decode cX6_swap 96 = .ok (.invokevirtual 90, 3) := by decide +kernel
theorem dX6_swap_99 : decode cX6_swap 99 = .ok (.istore_n 3, 1) := by decide +kernel
theorem dX6_swap_100 : decode cX6_swap 100 = .ok (.aload_n 0, 1) := by decide +kernel
theorem dX6_swap_101 : decode cX6_swap 101 = .ok (.iload_n 2, 1) := by decide +kernel
theorem dX6_swap_102 : decode cX6_swap 102 = .ok (.invokevirtual 90, 3) := by decide +kernel
theorem dX6_swap_105 : decode cX6_swap 105 = .ok (.istore 4, 2) := by decide +kernel
theorem dX6_swap_107 : decode cX6_swap 107 = .ok (.aload_n 0, 1) := by decide +kernel
theorem dX6_swap_108 : decode cX6_swap 108 = .ok (.getfield 41, 3) := by decide +kernel
theorem dX6_swap_111 : decode cX6_swap 111 = .ok (.sipush 142, 3) := by decide +kernel
theorem dX6_swap_114 : decode cX6_swap 114 = .ok (.iload_n 3, 1) := by decide +kernel
theorem dX6_swap_115 : decode cX6_swap 115 = .ok (.iadd, 1) := by decide +kernel
theorem dX6_swap_116 : decode cX6_swap 116 = .ok (.iload_n 2, 1) := by decide +kernel
theorem dX6_swap_117 : decode cX6_swap 117 = .ok (.iastore, 1) := by decide +kernel
theorem dX6_swap_118 : decode cX6_swap 118 = .ok (.aload_n 0, 1) := by decide +kernel
theorem dX6_swap_119 : decode cX6_swap 119 = .ok (.getfield 41, 3) := by decide +kernel
theorem dX6_swap_122 : decode cX6_swap 122 = .ok (.sipush 142, 3) := by decide +kernel
theorem dX6_swap_125 : decode cX6_swap 125 = .ok (.iload 4, 2) := by decide +kernel
theorem dX6_swap_127 : decode cX6_swap 127 = .ok (.iadd, 1) := by decide +kernel
theorem dX6_swap_128 : decode cX6_swap 128 = .ok (.iload_n 1, 1) := by decide +kernel
theorem dX6_swap_129 : decode cX6_swap 129 = .ok (.iastore, 1) := by decide +kernel
theorem dX6_swap_130 : decode cX6_swap 130 = .ok (.iload 4, 2) := by decide +kernel
theorem dX6_swap_132 : decode cX6_swap 132 = .ok (.ireturn, 1) := by decide +kernel
theorem dX6_isStation_0 : decode cX6_isStation 0 = .ok (.iload_n 1, 1) := by decide +kernel
theorem dX6_isStation_1 : decode cX6_isStation 1 = .ok (.i2l, 1) := by decide +kernel
theorem dX6_isStation_2 : decode cX6_isStation 2 = .ok (.lconst 0, 1) := by decide +kernel
theorem dX6_isStation_3 : decode cX6_isStation 3 = .ok (.aload_n 0, 1) := by decide +kernel
theorem dX6_isStation_4 : decode cX6_isStation 4 = .ok (.getfield 71, 3) := by decide +kernel
theorem dX6_isStation_7 : decode cX6_isStation 7 = .ok (.iconst 1, 1) := by decide +kernel
theorem dX6_isStation_8 : decode cX6_isStation 8 = .ok (.isub, 1) := by decide +kernel
theorem dX6_isStation_9 : decode cX6_isStation 9 = .ok (.i2l, 1) := by decide +kernel
theorem dX6_isStation_10 : decode cX6_isStation 10 = .ok (.invokestatic 59, 3) := by decide +kernel
theorem dX6_isStation_13 : decode cX6_isStation 13 = .ok (.ireturn, 1) := by decide +kernel
theorem dX6_many_0 : decode cX6_many 0 = .ok (.iconst 0, 1) := by decide +kernel
theorem dX6_many_1 : decode cX6_many 1 = .ok (.istore_n 1, 1) := by decide +kernel
theorem dX6_many_2 : decode cX6_many 2 = .ok (.iconst 0, 1) := by decide +kernel
theorem dX6_many_3 : decode cX6_many 3 = .ok (.istore_n 2, 1) := by decide +kernel
theorem dX6_many_4 : decode cX6_many 4 = .ok (.iload_n 2, 1) := by decide +kernel
theorem dX6_many_5 : decode cX6_many 5 = .ok (.bipush 8, 2) := by decide +kernel
theorem dX6_many_7 : decode cX6_many 7 = .ok (.if_icmp .ge 17, 3) := by decide +kernel
theorem dX6_many_10 : decode cX6_many 10 = .ok (.iload_n 1, 1) := by decide +kernel
theorem dX6_many_11 : decode cX6_many 11 = .ok (.iload_n 0, 1) := by decide +kernel
theorem dX6_many_12 : decode cX6_many 12 = .ok (.iload_n 2, 1) := by decide +kernel
theorem dX6_many_13 : decode cX6_many 13 = .ok (.ishr, 1) := by decide +kernel
theorem dX6_many_14 : decode cX6_many 14 = .ok (.iconst 1, 1) := by decide +kernel
theorem dX6_many_15 : decode cX6_many 15 = .ok (.iand, 1) := by decide +kernel
theorem dX6_many_16 : decode cX6_many 16 = .ok (.iadd, 1) := by decide +kernel
theorem dX6_many_17 : decode cX6_many 17 = .ok (.istore_n 1, 1) := by decide +kernel
theorem dX6_many_18 : decode cX6_many 18 = .ok (.iinc 2 1, 3) := by decide +kernel
theorem dX6_many_21 : decode cX6_many 21 = .ok (.goto (-17), 3) := by decide +kernel
theorem dX6_many_24 : decode cX6_many 24 = .ok (.iload_n 1, 1) := by decide +kernel
theorem dX6_many_25 : decode cX6_many 25 = .ok (.ireturn, 1) := by decide +kernel
theorem dX6_fault_0 : decode cX6_fault 0 = .ok (.aload_n 0, 1) := by decide +kernel
theorem dX6_fault_1 : decode cX6_fault 1 = .ok (.iload_n 1, 1) := by decide +kernel
theorem dX6_fault_2 : decode cX6_fault 2 = .ok (.invokevirtual 87, 3) := by decide +kernel
theorem dX6_fault_5 : decode cX6_fault 5 = .ok (.ifCond .eq 11, 3) := by decide +kernel
theorem dX6_fault_8 : decode cX6_fault 8 = .ok (.aload_n 0, 1) := by decide +kernel
theorem dX6_fault_9 : decode cX6_fault 9 = .ok (.iload_n 2, 1) := by decide +kernel
theorem dX6_fault_10 : decode cX6_fault 10 = .ok (.invokevirtual 94, 3) := by decide +kernel
theorem dX6_fault_13 : decode cX6_fault 13 = .ok (.ifCond .ne 10, 3) := by decide +kernel
theorem dX6_fault_16 : decode cX6_fault 16 = .ok (.aload_n 0, 1) := by decide +kernel
theorem dX6_fault_17 : decode cX6_fault 17 = .ok (.iconst 1, 1) := by decide +kernel
theorem dX6_fault_18 : decode cX6_fault 18 = .ok (.putfield 54, 3) := by decide +kernel
theorem dX6_fault_21 : decode cX6_fault 21 = .ok (.iconst (-1), 1) := by decide +kernel
theorem dX6_fault_22 : decode cX6_fault 22 = .ok (.ireturn, 1) := by decide +kernel
theorem dX6_fault_23 : decode cX6_fault 23 = .ok (.aload_n 0, 1) := by decide +kernel
theorem dX6_fault_24 : decode cX6_fault 24 = .ok (.getfield 38, 3) := by decide +kernel
theorem dX6_fault_27 : decode cX6_fault 27 = .ok (.iload_n 1, 1) := by decide +kernel
theorem dX6_fault_28 : decode cX6_fault 28 = .ok (.iaload, 1) := by decide +kernel
theorem dX6_fault_29 : decode cX6_fault 29 = .ok (.iload_n 2, 1) := by decide +kernel
theorem dX6_fault_30 : decode cX6_fault 30 = .ok (.ishr, 1) := by decide +kernel
theorem dX6_fault_31 : decode cX6_fault 31 = .ok (.iconst 1, 1) := by decide +kernel
theorem dX6_fault_32 : decode cX6_fault 32 = .ok (.iand, 1) := by decide +kernel
theorem dX6_fault_33 : decode cX6_fault 33 = .ok (.iconst 1, 1) := by decide +kernel
theorem dX6_fault_34 : decode cX6_fault 34 = .ok (.if_icmp .ne 34, 3) := by decide +kernel
theorem dX6_fault_37 : decode cX6_fault 37 = .ok (.aload_n 0, 1) := by decide +kernel
theorem dX6_fault_38 : decode cX6_fault 38 = .ok (.getfield 41, 3) := by decide +kernel
theorem dX6_fault_41 : decode cX6_fault 41 = .ok (.bipush 14, 2) := by decide +kernel
theorem dX6_fault_43 : decode cX6_fault 43 = .ok (.iload_n 2, 1) := by decide +kernel
theorem dX6_fault_44 : decode cX6_fault 44 = .ok (.iadd, 1) := by decide +kernel
theorem dX6_fault_45 : decode cX6_fault 45 = .ok (.iaload, 1) := by decide +kernel
theorem dX6_fault_46 : decode cX6_fault 46 = .ok (.iload_n 1, 1) := by decide +kernel
theorem dX6_fault_47 : decode cX6_fault 47 = .ok (.if_icmp .eq 21, 3) := by decide +kernel
theorem dX6_fault_50 : decode cX6_fault 50 = .ok (.aload_n 0, 1) := by decide +kernel
theorem dX6_fault_51 : decode cX6_fault 51 = .ok (.getfield 41, 3) := by decide +kernel
theorem dX6_fault_54 : decode cX6_fault 54 = .ok (.bipush 82, 2) := by decide +kernel
theorem dX6_fault_56 : decode cX6_fault 56 = .ok (.iload_n 1, 1) := by decide +kernel
theorem dX6_fault_57 : decode cX6_fault 57 = .ok (.iadd, 1) := by decide +kernel
theorem dX6_fault_58 : decode cX6_fault 58 = .ok (.iaload, 1) := by decide +kernel
theorem dX6_fault_59 : decode cX6_fault 59 = .ok (.bipush 100, 2) := by decide +kernel
theorem dX6_fault_61 : decode cX6_fault 61 = .ok (.if_icmp .eq 7, 3) := by decide +kernel
theorem dX6_fault_64 : decode cX6_fault 64 = .ok (.iconst 1, 1) := by decide +kernel
theorem dX6_fault_65 : decode cX6_fault 65 = .ok (.goto 4, 3) := by decide +kernel
theorem dX6_fault_68 : decode cX6_fault 68 = .ok (.iconst 0, 1) := by decide +kernel
theorem dX6_fault_69 : decode cX6_fault 69 = .ok (.istore_n 3, 1) := by decide +kernel
theorem dX6_fault_70 : decode cX6_fault 70 = .ok (.aload_n 0, 1) := by decide +kernel
theorem dX6_fault_71 : decode cX6_fault 71 = .ok (.iload_n 3, 1) := by decide +kernel
theorem dX6_fault_72 : decode cX6_fault 72 = .ok (.ifCond .ne 7, 3) := by decide +kernel
theorem dX6_fault_75 : decode cX6_fault 75 = .ok (.iconst 2, 1) := by decide +kernel
theorem dX6_fault_76 : decode cX6_fault 76 = .ok (.goto 25, 3) := by decide +kernel
theorem dX6_fault_79 : decode cX6_fault 79 = .ok (.aload_n 0, 1) := by decide +kernel
theorem dX6_fault_80 : decode cX6_fault 80 = .ok (.getfield 41, 3) := by decide +kernel
theorem dX6_fault_83 : decode cX6_fault 83 = .ok (.bipush 112, 2) := by decide +kernel
theorem dX6_fault_85 : decode cX6_fault 85 = .ok (.iload_n 1, 1) := by decide +kernel
theorem dX6_fault_86 : decode cX6_fault 86 = .ok (.iadd, 1) := by decide +kernel
theorem dX6_fault_87 : decode cX6_fault 87 = .ok (.iaload, 1) := by decide +kernel
theorem dX6_fault_88 : decode cX6_fault 88 = .ok (.iload_n 2, 1) := by decide +kernel
theorem dX6_fault_89 : decode cX6_fault 89 = .ok (.ishr, 1) := by decide +kernel
theorem dX6_fault_90 : decode cX6_fault 90 = .ok (.iconst 1, 1) := by decide +kernel
theorem dX6_fault_91 : decode cX6_fault 91 = .ok (.iand, 1) := by decide +kernel
theorem dX6_fault_92 : decode cX6_fault 92 = .ok (.iconst 1, 1) := by decide +kernel
theorem dX6_fault_93 : decode cX6_fault 93 = .ok (.if_icmp .ne 7, 3) := by decide +kernel
theorem dX6_fault_96 : decode cX6_fault 96 = .ok (.iconst 3, 1) := by decide +kernel
theorem dX6_fault_97 : decode cX6_fault 97 = .ok (.goto 4, 3) := by decide +kernel
theorem dX6_fault_100 : decode cX6_fault 100 = .ok (.iconst 0, 1) := by decide +kernel
theorem dX6_fault_101 : decode cX6_fault 101 = .ok (.putfield 54, 3) := by decide +kernel
theorem dX6_fault_104 : decode cX6_fault 104 = .ok (.aload_n 0, 1) := by decide +kernel
theorem dX6_fault_105 : decode cX6_fault 105 = .ok (.getfield 54, 3) := by decide +kernel
theorem dX6_fault_108 : decode cX6_fault 108 = .ok (.ifCond .le 5, 3) := by decide +kernel
theorem dX6_fault_111 : decode cX6_fault 111 = .ok (.iconst (-1), 1) := by decide +kernel
theorem dX6_fault_112 : decode cX6_fault 112 = .ok (.ireturn, 1) := by decide +kernel
theorem dX6_fault_113 : decode cX6_fault 113 = .ok (.aload_n 0, 1) := by decide +kernel
theorem dX6_fault_114 : decode cX6_fault 114 = .ok (.getfield 41, 3) := by decide +kernel
theorem dX6_fault_117 : decode cX6_fault 117 = .ok (.bipush 112, 2) := by decide +kernel
theorem dX6_fault_119 : decode cX6_fault 119 = .ok (.iload_n 1, 1) := by decide +kernel
theorem dX6_fault_120 : decode cX6_fault 120 = .ok (.iadd, 1) := by decide +kernel
theorem dX6_fault_121 : decode cX6_fault 121 = .ok (.dup2, 1) := by decide +kernel
theorem dX6_fault_122 : decode cX6_fault 122 = .ok (.iaload, 1) := by decide +kernel
theorem dX6_fault_123 : decode cX6_fault 123 = .ok (.iconst 1, 1) := by decide +kernel
theorem dX6_fault_124 : decode cX6_fault 124 = .ok (.iload_n 2, 1) := by decide +kernel
theorem dX6_fault_125 : decode cX6_fault 125 = .ok (.ishl, 1) := by decide +kernel
theorem dX6_fault_126 : decode cX6_fault 126 = .ok (.ior, 1) := by decide +kernel
theorem dX6_fault_127 : decode cX6_fault 127 = .ok (.iastore, 1) := by decide +kernel
theorem dX6_fault_128 : decode cX6_fault 128 = .ok (.aload_n 0, 1) := by decide +kernel
theorem dX6_fault_129 : decode cX6_fault 129 = .ok (.getfield 41, 3) := by decide +kernel
theorem dX6_fault_132 : decode cX6_fault 132 = .ok (.bipush 112, 2) := by decide +kernel
theorem dX6_fault_134 : decode cX6_fault 134 = .ok (.iload_n 1, 1) := by decide +kernel
theorem dX6_fault_135 : decode cX6_fault 135 = .ok (.iadd, 1) := by decide +kernel
theorem dX6_fault_136 : decode cX6_fault 136 = .ok (.iaload, 1) := by decide +kernel
theorem dX6_fault_137 : decode cX6_fault 137 = .ok (.invokestatic 97, 3) := by decide +kernel
theorem dX6_fault_140 : decode cX6_fault 140 = .ok (.ireturn, 1) := by decide +kernel
theorem dX6_writes_0 : decode cX6_writes 0 = .ok (.aload_n 0, 1) := by decide +kernel
theorem dX6_writes_1 : decode cX6_writes 1 = .ok (.getfield 100, 3) := by decide +kernel
theorem dX6_writes_4 : decode cX6_writes 4 = .ok (.ifCond .eq 4, 3) := by decide +kernel
theorem dX6_writes_7 : decode cX6_writes 7 = .ok (.return_, 1) := by decide +kernel
theorem dX6_writes_8 : decode cX6_writes 8 = .ok (.aload_n 0, 1) := by decide +kernel
theorem dX6_writes_9 : decode cX6_writes 9 = .ok (.getfield 104, 3) := by decide +kernel
theorem dX6_writes_12 : decode cX6_writes 12 = .ok (.aload_n 0, 1) := by decide +kernel
theorem dX6_writes_13 : decode cX6_writes 13 = .ok (.getfield 47, 3) := by decide +kernel
theorem dX6_writes_16 : decode cX6_writes 16 = .ok (.arraylength, 1) := by decide +kernel
theorem dX6_writes_17 : decode cX6_writes 17 = .ok (.if_icmp .ne 74, 3) := by decide +kernel
theorem dX6_writes_20 : decode cX6_writes 20 = .ok (.iconst 2, 1) := by decide +kernel
theorem dX6_writes_21 : decode cX6_writes 21 = .ok (.aload_n 0, 1) := by decide +kernel
theorem dX6_writes_22 : decode cX6_writes 22 = .ok (.getfield 104, 3) := by decide +kernel
theorem dX6_writes_25 : decode cX6_writes 25 = .ok (.imul, 1) := by decide +kernel
theorem dX6_writes_26 : decode cX6_writes 26 = .ok (.newarray .char, 2) := by decide +kernel
theorem dX6_writes_28 : decode cX6_writes 28 = .ok (.astore_n 3, 1) := by decide +kernel
theorem dX6_writes_29 : decode cX6_writes 29 = .ok (.iconst 2, 1) := by decide +kernel
theorem dX6_writes_30 : decode cX6_writes 30 = .ok (.aload_n 0, 1) := by decide +kernel
theorem dX6_writes_31 : decode cX6_writes 31 = .ok (.getfield 104, 3) := by decide +kernel
theorem dX6_writes_34 : decode cX6_writes 34 = .ok (.imul, 1) := by decide +kernel
theorem dX6_writes_35 : decode cX6_writes 35 = .ok (.newarray .int, 2) := by decide +kernel
theorem dX6_writes_37 : decode cX6_writes 37 = .ok (.astore 4, 2) := by decide +kernel
theorem dX6_writes_39 : decode cX6_writes 39 = .ok (.iconst 0, 1) := by decide +kernel
theorem dX6_writes_40 : decode cX6_writes 40 = .ok (.istore 5, 2) := by decide +kernel
theorem dX6_writes_42 : decode cX6_writes 42 = .ok (.iload 5, 2) := by decide +kernel
theorem dX6_writes_44 : decode cX6_writes 44 = .ok (.aload_n 0, 1) := by decide +kernel
theorem dX6_writes_45 : decode cX6_writes 45 = .ok (.getfield 104, 3) := by decide +kernel
theorem dX6_writes_48 : decode cX6_writes 48 = .ok (.if_icmp .ge 32, 3) := by decide +kernel
theorem dX6_writes_51 : decode cX6_writes 51 = .ok (.aload_n 3, 1) := by decide +kernel
theorem dX6_writes_52 : decode cX6_writes 52 = .ok (.iload 5, 2) := by decide +kernel
theorem dX6_writes_54 : decode cX6_writes 54 = .ok (.aload_n 0, 1) := by decide +kernel
theorem dX6_writes_55 : decode cX6_writes 55 = .ok (.getfield 47, 3) := by decide +kernel
theorem dX6_writes_58 : decode cX6_writes 58 = .ok (.iload 5, 2) := by decide +kernel
theorem dX6_writes_60 : decode cX6_writes 60 = .ok (.caload, 1) := by decide +kernel
theorem dX6_writes_61 : decode cX6_writes 61 = .ok (.castore, 1) := by decide +kernel
theorem dX6_writes_62 : decode cX6_writes 62 = .ok (.aload 4, 2) := by decide +kernel
theorem dX6_writes_64 : decode cX6_writes 64 = .ok (.iload 5, 2) := by decide +kernel
theorem dX6_writes_66 : decode cX6_writes 66 = .ok (.aload_n 0, 1) := by decide +kernel
theorem dX6_writes_67 : decode cX6_writes 67 = .ok (.getfield 51, 3) := by decide +kernel
theorem dX6_writes_70 : decode cX6_writes 70 = .ok (.iload 5, 2) := by decide +kernel
theorem dX6_writes_72 : decode cX6_writes 72 = .ok (.iaload, 1) := by decide +kernel
theorem dX6_writes_73 : decode cX6_writes 73 = .ok (.iastore, 1) := by decide +kernel
theorem dX6_writes_74 : decode cX6_writes 74 = .ok (.iinc 5 1, 3) := by decide +kernel
theorem dX6_writes_77 : decode cX6_writes 77 = .ok (.goto (-35), 3) := by decide +kernel
theorem dX6_writes_80 : decode cX6_writes 80 = .ok (.aload_n 0, 1) := by decide +kernel
theorem dX6_writes_81 : decode cX6_writes 81 = .ok (.aload_n 3, 1) := by decide +kernel
theorem dX6_writes_82 : decode cX6_writes 82 = .ok (.putfield 47, 3) := by decide +kernel
theorem dX6_writes_85 : decode cX6_writes 85 = .ok (.aload_n 0, 1) := by decide +kernel
theorem dX6_writes_86 : decode cX6_writes 86 = .ok (.aload 4, 2) := by decide +kernel
theorem dX6_writes_88 : decode cX6_writes 88 = .ok (.putfield 51, 3) := by decide +kernel
theorem dX6_writes_91 : decode cX6_writes 91 = .ok (.aload_n 0, 1) := by decide +kernel
theorem dX6_writes_92 : decode cX6_writes 92 = .ok (.getfield 47, 3) := by decide +kernel
theorem dX6_writes_95 : decode cX6_writes 95 = .ok (.aload_n 0, 1) := by decide +kernel
theorem dX6_writes_96 : decode cX6_writes 96 = .ok (.getfield 104, 3) := by decide +kernel
theorem dX6_writes_99 : decode cX6_writes 99 = .ok (.iload_n 2, 1) := by decide +kernel
theorem dX6_writes_100 : decode cX6_writes 100 = .ok (.castore, 1) := by decide +kernel
theorem dX6_writes_101 : decode cX6_writes 101 = .ok (.aload_n 0, 1) := by decide +kernel
theorem dX6_writes_102 : decode cX6_writes 102 = .ok (.getfield 51, 3) := by decide +kernel
theorem dX6_writes_105 : decode cX6_writes 105 = .ok (.aload_n 0, 1) := by decide +kernel
theorem dX6_writes_106 : decode cX6_writes 106 = .ok (.getfield 104, 3) := by decide +kernel
theorem dX6_writes_109 : decode cX6_writes 109 = .ok (.iload_n 1, 1) := by decide +kernel
theorem dX6_writes_110 : decode cX6_writes 110 = .ok (.iastore, 1) := by decide +kernel
theorem dX6_writes_111 : decode cX6_writes 111 = .ok (.aload_n 0, 1) := by decide +kernel
theorem dX6_writes_112 : decode cX6_writes 112 = .ok (.dup, 1) := by decide +kernel
theorem dX6_writes_113 : decode cX6_writes 113 = .ok (.getfield 104, 3) := by decide +kernel
theorem dX6_writes_116 : decode cX6_writes 116 = .ok (.iconst 1, 1) := by decide +kernel
theorem dX6_writes_117 : decode cX6_writes 117 = .ok (.iadd, 1) := by decide +kernel
theorem dX6_writes_118 : decode cX6_writes 118 = .ok (.putfield 104, 3) := by decide +kernel
theorem dX6_writes_121 : decode cX6_writes 121 = .ok (.return_, 1) := by decide +kernel
theorem dX6_enters_0 : decode cX6_enters 0 = .ok (.aload_n 0, 1) := by decide +kernel
theorem dX6_enters_1 : decode cX6_enters 1 = .ok (.getfield 13, 3) := by decide +kernel
theorem dX6_enters_4 : decode cX6_enters 4 = .ok (.iload_n 2, 1) := by decide +kernel
theorem dX6_enters_5 : decode cX6_enters 5 = .ok (.iaload, 1) := by decide +kernel
theorem dX6_enters_6 : decode cX6_enters 6 = .ok (.iconst (-1), 1) := by decide +kernel
theorem dX6_enters_7 : decode cX6_enters 7 = .ok (.if_icmp .eq 26, 3) := by decide +kernel
theorem dX6_enters_10 : decode cX6_enters 10 = .ok (.aload_n 0, 1) := by decide +kernel
theorem dX6_enters_11 : decode cX6_enters 11 = .ok (.getfield 29, 3) := by decide +kernel
theorem dX6_enters_14 : decode cX6_enters 14 = .ok (.iload_n 1, 1) := by decide +kernel
theorem dX6_enters_15 : decode cX6_enters 15 = .ok (.iaload, 1) := by decide +kernel
theorem dX6_enters_16 : decode cX6_enters 16 = .ok (.aload_n 0, 1) := by decide +kernel
theorem dX6_enters_17 : decode cX6_enters 17 = .ok (.getfield 13, 3) := by decide +kernel
theorem dX6_enters_20 : decode cX6_enters 20 = .ok (.iload_n 2, 1) := by decide +kernel
theorem dX6_enters_21 : decode cX6_enters 21 = .ok (.iaload, 1) := by decide +kernel
theorem dX6_enters_22 : decode cX6_enters 22 = .ok (.ishr, 1) := by decide +kernel
theorem dX6_enters_23 : decode cX6_enters 23 = .ok (.iconst 1, 1) := by decide +kernel
theorem dX6_enters_24 : decode cX6_enters 24 = .ok (.iand, 1) := by decide +kernel
theorem dX6_enters_25 : decode cX6_enters 25 = .ok (.iconst 1, 1) := by decide +kernel
theorem dX6_enters_26 : decode cX6_enters 26 = .ok (.if_icmp .ne 7, 3) := by decide +kernel
theorem dX6_enters_29 : decode cX6_enters 29 = .ok (.iconst 1, 1) := by decide +kernel
theorem dX6_enters_30 : decode cX6_enters 30 = .ok (.goto 4, 3) := by decide +kernel
theorem dX6_enters_33 : decode cX6_enters 33 = .ok (.iconst 0, 1) := by decide +kernel
theorem dX6_enters_34 : decode cX6_enters 34 = .ok (.istore 4, 2) := by decide +kernel
theorem dX6_enters_36 : decode cX6_enters 36 = .ok (.aload_n 0, 1) := by decide +kernel
theorem dX6_enters_37 : decode cX6_enters 37 = .ok (.getfield 13, 3) := by decide +kernel
theorem dX6_enters_40 : decode cX6_enters 40 = .ok (.iload_n 2, 1) := by decide +kernel
theorem dX6_enters_41 : decode cX6_enters 41 = .ok (.iaload, 1) := by decide +kernel
theorem dX6_enters_42 : decode cX6_enters 42 = .ok (.iconst (-1), 1) := by decide +kernel
theorem dX6_enters_43 : decode cX6_enters 43 = .ok (.if_icmp .eq 16, 3) := by decide +kernel
theorem dX6_enters_46 : decode cX6_enters 46 = .ok (.iload 4, 2) := by decide +kernel
theorem dX6_enters_48 : decode cX6_enters 48 = .ok (.ifCond .ne 11, 3) := by decide +kernel
theorem dX6_enters_51 : decode cX6_enters 51 = .ok (.iload_n 3, 1) := by decide +kernel
theorem dX6_enters_52 : decode cX6_enters 52 = .ok (.ifCond .ne 7, 3) := by decide +kernel
theorem dX6_enters_55 : decode cX6_enters 55 = .ok (.iconst 1, 1) := by decide +kernel
theorem dX6_enters_56 : decode cX6_enters 56 = .ok (.goto 4, 3) := by decide +kernel
theorem dX6_enters_59 : decode cX6_enters 59 = .ok (.iconst 0, 1) := by decide +kernel
theorem dX6_enters_60 : decode cX6_enters 60 = .ok (.istore 5, 2) := by decide +kernel
theorem dX6_enters_62 : decode cX6_enters 62 = .ok (.iload 4, 2) := by decide +kernel
theorem dX6_enters_64 : decode cX6_enters 64 = .ok (.ifCond .eq 25, 3) := by decide +kernel
theorem dX6_enters_67 : decode cX6_enters 67 = .ok (.aload_n 0, 1) := by decide +kernel
theorem dX6_enters_68 : decode cX6_enters 68 = .ok (.getfield 41, 3) := by decide +kernel
theorem dX6_enters_71 : decode cX6_enters 71 = .ok (.bipush 6, 2) := by decide +kernel
theorem dX6_enters_73 : decode cX6_enters 73 = .ok (.iload_n 2, 1) := by decide +kernel
theorem dX6_enters_74 : decode cX6_enters 74 = .ok (.iadd, 1) := by decide +kernel
theorem dX6_enters_75 : decode cX6_enters 75 = .ok (.iaload, 1) := by decide +kernel
theorem dX6_enters_76 : decode cX6_enters 76 = .ok (.aload_n 0, 1) := by decide +kernel
theorem dX6_enters_77 : decode cX6_enters 77 = .ok (.getfield 16, 3) := by decide +kernel
theorem dX6_enters_80 : decode cX6_enters 80 = .ok (.iload_n 2, 1) := by decide +kernel
theorem dX6_enters_81 : decode cX6_enters 81 = .ok (.iaload, 1) := by decide +kernel
theorem dX6_enters_82 : decode cX6_enters 82 = .ok (.if_icmp .ge 7, 3) := by decide +kernel
theorem dX6_enters_85 : decode cX6_enters 85 = .ok (.iconst 1, 1) := by decide +kernel
theorem dX6_enters_86 : decode cX6_enters 86 = .ok (.goto 4, 3) := by decide +kernel
theorem dX6_enters_89 : decode cX6_enters 89 = .ok (.iconst 0, 1) := by decide +kernel
theorem dX6_enters_90 : decode cX6_enters 90 = .ok (.istore 6, 2) := by decide +kernel
theorem dX6_enters_92 : decode cX6_enters 92 = .ok (.aload_n 0, 1) := by decide +kernel
theorem dX6_enters_93 : decode cX6_enters 93 = .ok (.getfield 41, 3) := by decide +kernel
theorem dX6_enters_96 : decode cX6_enters 96 = .ok (.bipush 14, 2) := by decide +kernel
theorem dX6_enters_98 : decode cX6_enters 98 = .ok (.iload_n 2, 1) := by decide +kernel
theorem dX6_enters_99 : decode cX6_enters 99 = .ok (.iadd, 1) := by decide +kernel
theorem dX6_enters_100 : decode cX6_enters 100 = .ok (.iload_n 1, 1) := by decide +kernel
theorem dX6_enters_101 : decode cX6_enters 101 = .ok (.iastore, 1) := by decide +kernel
theorem dX6_enters_102 : decode cX6_enters 102 = .ok (.aload_n 0, 1) := by decide +kernel
theorem dX6_enters_103 : decode cX6_enters 103 = .ok (.getfield 41, 3) := by decide +kernel
theorem dX6_enters_106 : decode cX6_enters 106 = .ok (.bipush 82, 2) := by decide +kernel
theorem dX6_enters_108 : decode cX6_enters 108 = .ok (.iload_n 1, 1) := by decide +kernel
theorem dX6_enters_109 : decode cX6_enters 109 = .ok (.iadd, 1) := by decide +kernel
theorem dX6_enters_110 : decode cX6_enters 110 = .ok (.bipush 115, 2) := by decide +kernel
theorem dX6_enters_112 : decode cX6_enters 112 = .ok (.iastore, 1) := by decide +kernel
theorem dX6_enters_113 : decode cX6_enters 113 = .ok (.aload_n 0, 1) := by decide +kernel
theorem dX6_enters_114 : decode cX6_enters 114 = .ok (.getfield 41, 3) := by decide +kernel
theorem dX6_enters_117 : decode cX6_enters 117 = .ok (.bipush 52, 2) := by decide +kernel
theorem dX6_enters_119 : decode cX6_enters 119 = .ok (.iload_n 1, 1) := by decide +kernel
theorem dX6_enters_120 : decode cX6_enters 120 = .ok (.iadd, 1) := by decide +kernel
theorem dX6_enters_121 : decode cX6_enters 121 = .ok (.iload_n 3, 1) := by decide +kernel
theorem dX6_enters_122 : decode cX6_enters 122 = .ok (.ifCond .eq 7, 3) := by decide +kernel
theorem dX6_enters_125 : decode cX6_enters 125 = .ok (.iconst 1, 1) := by decide +kernel
theorem dX6_enters_126 : decode cX6_enters 126 = .ok (.goto 4, 3) := by decide +kernel
theorem dX6_enters_129 : decode cX6_enters 129 = .ok (.iconst 0, 1) := by decide +kernel
theorem dX6_enters_130 : decode cX6_enters 130 = .ok (.iastore, 1) := by decide +kernel
theorem dX6_enters_131 : decode cX6_enters 131 = .ok (.aload_n 0, 1) := by decide +kernel
theorem dX6_enters_132 : decode cX6_enters 132 = .ok (.getfield 41, 3) := by decide +kernel
theorem dX6_enters_135 : decode cX6_enters 135 = .ok (.bipush 22, 2) := by decide +kernel
theorem dX6_enters_137 : decode cX6_enters 137 = .ok (.iload_n 1, 1) := by decide +kernel
theorem dX6_enters_138 : decode cX6_enters 138 = .ok (.iadd, 1) := by decide +kernel
theorem dX6_enters_139 : decode cX6_enters 139 = .ok (.iload 5, 2) := by decide +kernel
theorem dX6_enters_141 : decode cX6_enters 141 = .ok (.ifCond .eq 7, 3) := by decide +kernel
theorem dX6_enters_144 : decode cX6_enters 144 = .ok (.iconst 1, 1) := by decide +kernel
theorem dX6_enters_145 : decode cX6_enters 145 = .ok (.goto 9, 3) := by decide +kernel
theorem dX6_enters_148 : decode cX6_enters 148 = .ok (.aload_n 0, 1) := by decide +kernel
theorem dX6_enters_149 : decode cX6_enters 149 = .ok (.getfield 7, 3) := by decide +kernel
theorem dX6_enters_152 : decode cX6_enters 152 = .ok (.iload_n 2, 1) := by decide +kernel
theorem dX6_enters_153 : decode cX6_enters 153 = .ok (.iaload, 1) := by decide +kernel
theorem dX6_enters_154 : decode cX6_enters 154 = .ok (.iastore, 1) := by decide +kernel
theorem dX6_enters_155 : decode cX6_enters 155 = .ok (.iload 6, 2) := by decide +kernel
theorem dX6_enters_157 : decode cX6_enters 157 = .ok (.ifCond .eq 21, 3) := by decide +kernel
theorem dX6_enters_160 : decode cX6_enters 160 = .ok (.aload_n 0, 1) := by decide +kernel
theorem dX6_enters_161 : decode cX6_enters 161 = .ok (.getfield 41, 3) := by decide +kernel
theorem dX6_enters_164 : decode cX6_enters 164 = .ok (.bipush 112, 2) := by decide +kernel
theorem dX6_enters_166 : decode cX6_enters 166 = .ok (.iload_n 1, 1) := by decide +kernel
theorem dX6_enters_167 : decode cX6_enters 167 = .ok (.iadd, 1) := by decide +kernel
theorem dX6_enters_168 : decode cX6_enters 168 = .ok (.dup2, 1) := by decide +kernel
theorem dX6_enters_169 : decode cX6_enters 169 = .ok (.iaload, 1) := by decide +kernel
theorem dX6_enters_170 : decode cX6_enters 170 = .ok (.iconst 1, 1) := by decide +kernel
theorem dX6_enters_171 : decode cX6_enters 171 = .ok (.iload_n 2, 1) := by decide +kernel
theorem dX6_enters_172 : decode cX6_enters 172 = .ok (.ishl, 1) := by decide +kernel
theorem dX6_enters_173 : decode cX6_enters 173 = .ok (.ior, 1) := by decide +kernel
theorem dX6_enters_174 : decode cX6_enters 174 = .ok (.iastore, 1) := by decide +kernel
theorem dX6_enters_175 : decode cX6_enters 175 = .ok (.goto 25, 3) := by decide +kernel
theorem dX6_enters_178 : decode cX6_enters 178 = .ok (.iload 5, 2) := by decide +kernel
theorem dX6_enters_180 : decode cX6_enters 180 = .ok (.ifCond .ne 20, 3) := by decide +kernel
theorem dX6_enters_183 : decode cX6_enters 183 = .ok (.aload_n 0, 1) := by decide +kernel
theorem dX6_enters_184 : decode cX6_enters 184 = .ok (.getfield 41, 3) := by decide +kernel
theorem dX6_enters_187 : decode cX6_enters 187 = .ok (.bipush 112, 2) := by decide +kernel
theorem dX6_enters_189 : decode cX6_enters 189 = .ok (.iload_n 1, 1) := by decide +kernel
theorem dX6_enters_190 : decode cX6_enters 190 = .ok (.iadd, 1) := by decide +kernel
theorem dX6_enters_191 : decode cX6_enters 191 = .ok (.dup2, 1) := by decide +kernel
theorem dX6_enters_192 : decode cX6_enters 192 = .ok (.iaload, 1) := by decide +kernel
theorem dX6_enters_193 : decode cX6_enters 193 = .ok (.iconst 1, 1) := by decide +kernel
theorem dX6_enters_194 : decode cX6_enters 194 = .ok (.iload_n 2, 1) := by decide +kernel
theorem dX6_enters_195 : decode cX6_enters 195 = .ok (.ishl, 1) := by decide +kernel
theorem dX6_enters_196 : decode cX6_enters 196 = .ok (.iconst (-1), 1) := by decide +kernel
theorem dX6_enters_197 : decode cX6_enters 197 = .ok (.ixor, 1) := by decide +kernel
theorem dX6_enters_198 : decode cX6_enters 198 = .ok (.iand, 1) := by decide +kernel
theorem dX6_enters_199 : decode cX6_enters 199 = .ok (.iastore, 1) := by decide +kernel
theorem dX6_enters_200 : decode cX6_enters 200 = .ok (.iload 4, 2) := by decide +kernel
theorem dX6_enters_202 : decode cX6_enters 202 = .ok (.ifCond .eq 26, 3) := by decide +kernel
theorem dX6_enters_205 : decode cX6_enters 205 = .ok (.iload 6, 2) := by decide +kernel
theorem dX6_enters_207 : decode cX6_enters 207 = .ok (.ifCond .ne 21, 3) := by decide +kernel
theorem dX6_enters_210 : decode cX6_enters 210 = .ok (.aload_n 0, 1) := by decide +kernel
theorem dX6_enters_211 : decode cX6_enters 211 = .ok (.getfield 41, 3) := by decide +kernel
theorem dX6_enters_214 : decode cX6_enters 214 = .ok (.bipush 6, 2) := by decide +kernel
theorem dX6_enters_216 : decode cX6_enters 216 = .ok (.iload_n 2, 1) := by decide +kernel
theorem dX6_enters_217 : decode cX6_enters 217 = .ok (.iadd, 1) := by decide +kernel
theorem dX6_enters_218 : decode cX6_enters 218 = .ok (.dup2, 1) := by decide +kernel
theorem dX6_enters_219 : decode cX6_enters 219 = .ok (.iaload, 1) := by decide +kernel
theorem dX6_enters_220 : decode cX6_enters 220 = .ok (.aload_n 0, 1) := by decide +kernel
theorem dX6_enters_221 : decode cX6_enters 221 = .ok (.getfield 16, 3) := by decide +kernel
theorem dX6_enters_224 : decode cX6_enters 224 = .ok (.iload_n 2, 1) := by decide +kernel
theorem dX6_enters_225 : decode cX6_enters 225 = .ok (.iaload, 1) := by decide +kernel
theorem dX6_enters_226 : decode cX6_enters 226 = .ok (.isub, 1) := by decide +kernel
theorem dX6_enters_227 : decode cX6_enters 227 = .ok (.iastore, 1) := by decide +kernel
theorem dX6_enters_228 : decode cX6_enters 228 = .ok (.aload_n 0, 1) := by decide +kernel
theorem dX6_enters_229 : decode cX6_enters 229 = .ok (.iload_n 1, 1) := by decide +kernel
theorem dX6_enters_230 : decode cX6_enters 230 = .ok (.bipush 48, 2) := by decide +kernel
theorem dX6_enters_232 : decode cX6_enters 232 = .ok (.iload_n 2, 1) := by decide +kernel
theorem dX6_enters_233 : decode cX6_enters 233 = .ok (.iadd, 1) := by decide +kernel
theorem dX6_enters_234 : decode cX6_enters 234 = .ok (.i2c, 1) := by decide +kernel
theorem dX6_enters_235 : decode cX6_enters 235 = .ok (.invokevirtual 107, 3) := by decide +kernel
theorem dX6_enters_238 : decode cX6_enters 238 = .ok (.aload_n 0, 1) := by decide +kernel
theorem dX6_enters_239 : decode cX6_enters 239 = .ok (.iload_n 1, 1) := by decide +kernel
theorem dX6_enters_240 : decode cX6_enters 240 = .ok (.iload 6, 2) := by decide +kernel
theorem dX6_enters_242 : decode cX6_enters 242 = .ok (.ifCond .eq 8, 3) := by decide +kernel
theorem dX6_enters_245 : decode cX6_enters 245 = .ok (.bipush 45, 2) := by decide +kernel
theorem dX6_enters_247 : decode cX6_enters 247 = .ok (.goto 15, 3) := by decide +kernel
theorem dX6_enters_250 : decode cX6_enters 250 = .ok (.iload 5, 2) := by decide +kernel
theorem dX6_enters_252 : decode cX6_enters 252 = .ok (.ifCond .eq 8, 3) := by decide +kernel
theorem dX6_enters_255 : decode cX6_enters 255 = .ok (.bipush 46, 2) := by decide +kernel
theorem dX6_enters_257 : decode cX6_enters 257 = .ok (.goto 5, 3) := by decide +kernel
theorem dX6_enters_260 : decode cX6_enters 260 = .ok (.bipush 43, 2) := by decide +kernel
theorem dX6_enters_262 : decode cX6_enters 262 = .ok (.invokevirtual 107, 3) := by decide +kernel
theorem dX6_enters_265 : decode cX6_enters 265 = .ok (.aload_n 0, 1) := by decide +kernel
theorem dX6_enters_266 : decode cX6_enters 266 = .ok (.getfield 100, 3) := by decide +kernel
theorem dX6_enters_269 : decode cX6_enters 269 = .ok (.ifCond .ne 112, 3) := by decide +kernel
theorem dX6_enters_272 : decode cX6_enters 272 = .ok (.aload_n 0, 1) := by decide +kernel
theorem dX6_enters_273 : decode cX6_enters 273 = .ok (.getfield 38, 3) := by decide +kernel
theorem dX6_enters_276 : decode cX6_enters 276 = .ok (.iload_n 1, 1) := by decide +kernel
theorem dX6_enters_277 : decode cX6_enters 277 = .ok (.dup2, 1) := by decide +kernel
theorem dX6_enters_278 : decode cX6_enters 278 = .ok (.iaload, 1) := by decide +kernel
theorem dX6_enters_279 : decode cX6_enters 279 = .ok (.iconst 1, 1) := by decide +kernel
theorem dX6_enters_280 : decode cX6_enters 280 = .ok (.iload_n 2, 1) := by decide +kernel
theorem dX6_enters_281 : decode cX6_enters 281 = .ok (.ishl, 1) := by decide +kernel
theorem dX6_enters_282 : decode cX6_enters 282 = .ok (.ior, 1) := by decide +kernel
theorem dX6_enters_283 : decode cX6_enters 283 = .ok (.iastore, 1) := by decide +kernel
theorem dX6_enters_284 : decode cX6_enters 284 = .ok (.aload_n 0, 1) := by decide +kernel
theorem dX6_enters_285 : decode cX6_enters 285 = .ok (.getfield 22, 3) := by decide +kernel
theorem dX6_enters_288 : decode cX6_enters 288 = .ok (.iload_n 2, 1) := by decide +kernel
theorem dX6_enters_289 : decode cX6_enters 289 = .ok (.dup2, 1) := by decide +kernel
theorem dX6_enters_290 : decode cX6_enters 290 = .ok (.iaload, 1) := by decide +kernel
theorem dX6_enters_291 : decode cX6_enters 291 = .ok (.iload 6, 2) := by decide +kernel
theorem dX6_enters_293 : decode cX6_enters 293 = .ok (.ifCond .eq 7, 3) := by decide +kernel
theorem dX6_enters_296 : decode cX6_enters 296 = .ok (.iconst 1, 1) := by decide +kernel
theorem dX6_enters_297 : decode cX6_enters 297 = .ok (.goto 4, 3) := by decide +kernel
theorem dX6_enters_300 : decode cX6_enters 300 = .ok (.iconst 0, 1) := by decide +kernel
theorem dX6_enters_301 : decode cX6_enters 301 = .ok (.iadd, 1) := by decide +kernel
theorem dX6_enters_302 : decode cX6_enters 302 = .ok (.iastore, 1) := by decide +kernel
theorem dX6_enters_303 : decode cX6_enters 303 = .ok (.aload_n 0, 1) := by decide +kernel
theorem dX6_enters_304 : decode cX6_enters 304 = .ok (.dup, 1) := by decide +kernel
theorem dX6_enters_305 : decode cX6_enters 305 = .ok (.getfield 111, 3) := by decide +kernel
theorem dX6_enters_308 : decode cX6_enters 308 = .ok (.iload 4, 2) := by decide +kernel
theorem dX6_enters_310 : decode cX6_enters 310 = .ok (.ifCond .eq 18, 3) := by decide +kernel
theorem dX6_enters_313 : decode cX6_enters 313 = .ok (.iload 6, 2) := by decide +kernel
theorem dX6_enters_315 : decode cX6_enters 315 = .ok (.ifCond .ne 13, 3) := by decide +kernel
theorem dX6_enters_318 : decode cX6_enters 318 = .ok (.aload_n 0, 1) := by decide +kernel
theorem dX6_enters_319 : decode cX6_enters 319 = .ok (.getfield 16, 3) := by decide +kernel
theorem dX6_enters_322 : decode cX6_enters 322 = .ok (.iload_n 2, 1) := by decide +kernel
theorem dX6_enters_323 : decode cX6_enters 323 = .ok (.iaload, 1) := by decide +kernel
theorem dX6_enters_324 : decode cX6_enters 324 = .ok (.i2l, 1) := by decide +kernel
theorem dX6_enters_325 : decode cX6_enters 325 = .ok (.goto 4, 3) := by decide +kernel
theorem dX6_enters_328 : decode cX6_enters 328 = .ok (.lconst 0, 1) := by decide +kernel
theorem dX6_enters_329 : decode cX6_enters 329 = .ok (.ladd, 1) := by decide +kernel
theorem dX6_enters_330 : decode cX6_enters 330 = .ok (.putfield 111, 3) := by decide +kernel
theorem dX6_enters_333 : decode cX6_enters 333 = .ok (.iload_n 2, 1) := by decide +kernel
theorem dX6_enters_334 : decode cX6_enters 334 = .ok (.ifCond .ne 16, 3) := by decide +kernel
theorem dX6_enters_337 : decode cX6_enters 337 = .ok (.aload_n 0, 1) := by decide +kernel
theorem dX6_enters_338 : decode cX6_enters 338 = .ok (.getfield 32, 3) := by decide +kernel
theorem dX6_enters_341 : decode cX6_enters 341 = .ok (.iload_n 1, 1) := by decide +kernel
theorem dX6_enters_342 : decode cX6_enters 342 = .ok (.iaload, 1) := by decide +kernel
theorem dX6_enters_343 : decode cX6_enters 343 = .ok (.ifCond .ne 7, 3) := by decide +kernel
theorem dX6_enters_346 : decode cX6_enters 346 = .ok (.iconst 1, 1) := by decide +kernel
theorem dX6_enters_347 : decode cX6_enters 347 = .ok (.goto 4, 3) := by decide +kernel
theorem dX6_enters_350 : decode cX6_enters 350 = .ok (.iconst 0, 1) := by decide +kernel
theorem dX6_enters_351 : decode cX6_enters 351 = .ok (.istore 7, 2) := by decide +kernel
theorem dX6_enters_353 : decode cX6_enters 353 = .ok (.aload_n 0, 1) := by decide +kernel
theorem dX6_enters_354 : decode cX6_enters 354 = .ok (.getfield 32, 3) := by decide +kernel
theorem dX6_enters_357 : decode cX6_enters 357 = .ok (.iload_n 1, 1) := by decide +kernel
theorem dX6_enters_358 : decode cX6_enters 358 = .ok (.iload 7, 2) := by decide +kernel
theorem dX6_enters_360 : decode cX6_enters 360 = .ok (.ifCond .eq 14, 3) := by decide +kernel
theorem dX6_enters_363 : decode cX6_enters 363 = .ok (.aload_n 0, 1) := by decide +kernel
theorem dX6_enters_364 : decode cX6_enters 364 = .ok (.getfield 41, 3) := by decide +kernel
theorem dX6_enters_367 : decode cX6_enters 367 = .ok (.sipush 232, 3) := by decide +kernel
theorem dX6_enters_370 : decode cX6_enters 370 = .ok (.iaload, 1) := by decide +kernel
theorem dX6_enters_371 : decode cX6_enters 371 = .ok (.goto 9, 3) := by decide +kernel
theorem dX6_enters_374 : decode cX6_enters 374 = .ok (.aload_n 0, 1) := by decide +kernel
theorem dX6_enters_375 : decode cX6_enters 375 = .ok (.getfield 32, 3) := by decide +kernel
theorem dX6_enters_378 : decode cX6_enters 378 = .ok (.iload_n 1, 1) := by decide +kernel
theorem dX6_enters_379 : decode cX6_enters 379 = .ok (.iaload, 1) := by decide +kernel
theorem dX6_enters_380 : decode cX6_enters 380 = .ok (.iastore, 1) := by decide +kernel
theorem dX6_enters_381 : decode cX6_enters 381 = .ok (.return_, 1) := by decide +kernel
theorem dX6_fillsUp_0 : decode cX6_fillsUp 0 = .ok (.iconst 0, 1) := by decide +kernel
theorem dX6_fillsUp_1 : decode cX6_fillsUp 1 = .ok (.istore_n 1, 1) := by decide +kernel
theorem dX6_fillsUp_2 : decode cX6_fillsUp 2 = .ok (.iload_n 1, 1) := by decide +kernel
theorem dX6_fillsUp_3 : decode cX6_fillsUp 3 = .ok (.aload_n 0, 1) := by decide +kernel
theorem dX6_fillsUp_4 : decode cX6_fillsUp 4 = .ok (.getfield 71, 3) := by decide +kernel
theorem dX6_fillsUp_7 : decode cX6_fillsUp 7 = .ok (.if_icmp .ge 85, 3) := by decide +kernel
theorem dX6_fillsUp_10 : decode cX6_fillsUp 10 = .ok (.aload_n 0, 1) := by decide +kernel
theorem dX6_fillsUp_11 : decode cX6_fillsUp 11 = .ok (.getfield 13, 3) := by decide +kernel
theorem dX6_fillsUp_14 : decode cX6_fillsUp 14 = .ok (.iload_n 1, 1) := by decide +kernel
theorem dX6_fillsUp_15 : decode cX6_fillsUp 15 = .ok (.iaload, 1) := by decide +kernel
theorem dX6_fillsUp_16 : decode cX6_fillsUp 16 = .ok (.istore_n 2, 1) := by decide +kernel
theorem dX6_fillsUp_17 : decode cX6_fillsUp 17 = .ok (.iload_n 2, 1) := by decide +kernel
theorem dX6_fillsUp_18 : decode cX6_fillsUp 18 = .ok (.iconst (-1), 1) := by decide +kernel
theorem dX6_fillsUp_19 : decode cX6_fillsUp 19 = .ok (.if_icmp .eq 67, 3) := by decide +kernel
theorem dX6_fillsUp_22 : decode cX6_fillsUp 22 = .ok (.aload_n 0, 1) := by decide +kernel
theorem dX6_fillsUp_23 : decode cX6_fillsUp 23 = .ok (.getfield 19, 3) := by decide +kernel
theorem dX6_fillsUp_26 : decode cX6_fillsUp 26 = .ok (.iload_n 1, 1) := by decide +kernel
theorem dX6_fillsUp_27 : decode cX6_fillsUp 27 = .ok (.iaload, 1) := by decide +kernel
theorem dX6_fillsUp_28 : decode cX6_fillsUp 28 = .ok (.aload_n 0, 1) := by decide +kernel
theorem dX6_fillsUp_29 : decode cX6_fillsUp 29 = .ok (.getfield 41, 3) := by decide +kernel
theorem dX6_fillsUp_32 : decode cX6_fillsUp 32 = .ok (.bipush 6, 2) := by decide +kernel
theorem dX6_fillsUp_34 : decode cX6_fillsUp 34 = .ok (.iload_n 1, 1) := by decide +kernel
theorem dX6_fillsUp_35 : decode cX6_fillsUp 35 = .ok (.iadd, 1) := by decide +kernel
theorem dX6_fillsUp_36 : decode cX6_fillsUp 36 = .ok (.iaload, 1) := by decide +kernel
theorem dX6_fillsUp_37 : decode cX6_fillsUp 37 = .ok (.isub, 1) := by decide +kernel
theorem dX6_fillsUp_38 : decode cX6_fillsUp 38 = .ok (.istore_n 3, 1) := by decide +kernel
theorem dX6_fillsUp_39 : decode cX6_fillsUp 39 = .ok (.iload_n 3, 1) := by decide +kernel
theorem dX6_fillsUp_40 : decode cX6_fillsUp 40 = .ok (.aload_n 0, 1) := by decide +kernel
theorem dX6_fillsUp_41 : decode cX6_fillsUp 41 = .ok (.getfield 41, 3) := by decide +kernel
theorem dX6_fillsUp_44 : decode cX6_fillsUp 44 = .ok (.iload_n 2, 1) := by decide +kernel
theorem dX6_fillsUp_45 : decode cX6_fillsUp 45 = .ok (.iaload, 1) := by decide +kernel
theorem dX6_fillsUp_46 : decode cX6_fillsUp 46 = .ok (.if_icmp .ge 7, 3) := by decide +kernel
theorem dX6_fillsUp_49 : decode cX6_fillsUp 49 = .ok (.iload_n 3, 1) := by decide +kernel
theorem dX6_fillsUp_50 : decode cX6_fillsUp 50 = .ok (.goto 9, 3) := by decide +kernel
theorem dX6_fillsUp_53 : decode cX6_fillsUp 53 = .ok (.aload_n 0, 1) := by decide +kernel
theorem dX6_fillsUp_54 : decode cX6_fillsUp 54 = .ok (.getfield 41, 3) := by decide +kernel
theorem dX6_fillsUp_57 : decode cX6_fillsUp 57 = .ok (.iload_n 2, 1) := by decide +kernel
theorem dX6_fillsUp_58 : decode cX6_fillsUp 58 = .ok (.iaload, 1) := by decide +kernel
theorem dX6_fillsUp_59 : decode cX6_fillsUp 59 = .ok (.istore 4, 2) := by decide +kernel
theorem dX6_fillsUp_61 : decode cX6_fillsUp 61 = .ok (.aload_n 0, 1) := by decide +kernel
theorem dX6_fillsUp_62 : decode cX6_fillsUp 62 = .ok (.getfield 41, 3) := by decide +kernel
theorem dX6_fillsUp_65 : decode cX6_fillsUp 65 = .ok (.bipush 6, 2) := by decide +kernel
theorem dX6_fillsUp_67 : decode cX6_fillsUp 67 = .ok (.iload_n 1, 1) := by decide +kernel
theorem dX6_fillsUp_68 : decode cX6_fillsUp 68 = .ok (.iadd, 1) := by decide +kernel
theorem dX6_fillsUp_69 : decode cX6_fillsUp 69 = .ok (.dup2, 1) := by decide +kernel
theorem dX6_fillsUp_70 : decode cX6_fillsUp 70 = .ok (.iaload, 1) := by decide +kernel
theorem dX6_fillsUp_71 : decode cX6_fillsUp 71 = .ok (.iload 4, 2) := by decide +kernel
theorem dX6_fillsUp_73 : decode cX6_fillsUp 73 = .ok (.iadd, 1) := by decide +kernel
theorem dX6_fillsUp_74 : decode cX6_fillsUp 74 = .ok (.iastore, 1) := by decide +kernel
theorem dX6_fillsUp_75 : decode cX6_fillsUp 75 = .ok (.aload_n 0, 1) := by decide +kernel
theorem dX6_fillsUp_76 : decode cX6_fillsUp 76 = .ok (.getfield 41, 3) := by decide +kernel
theorem dX6_fillsUp_79 : decode cX6_fillsUp 79 = .ok (.iload_n 2, 1) := by decide +kernel
theorem dX6_fillsUp_80 : decode cX6_fillsUp 80 = .ok (.dup2, 1) := by decide +kernel
theorem dX6_fillsUp_81 : decode cX6_fillsUp 81 = .ok (.iaload, 1) := by decide +kernel
theorem dX6_fillsUp_82 : decode cX6_fillsUp 82 = .ok (.iload 4, 2) := by decide +kernel
theorem dX6_fillsUp_84 : decode cX6_fillsUp 84 = .ok (.isub, 1) := by decide +kernel
theorem dX6_fillsUp_85 : decode cX6_fillsUp 85 = .ok (.iastore, 1) := by decide +kernel
theorem dX6_fillsUp_86 : decode cX6_fillsUp 86 = .ok (.iinc 1 1, 3) := by decide +kernel
theorem dX6_fillsUp_89 : decode cX6_fillsUp 89 = .ok (.goto (-87), 3) := by decide +kernel
theorem dX6_fillsUp_92 : decode cX6_fillsUp 92 = .ok (.return_, 1) := by decide +kernel
theorem dX6_leavesLine_0 : decode cX6_leavesLine 0 = .ok (.aload_n 0, 1) := by decide +kernel
theorem dX6_leavesLine_1 : decode cX6_leavesLine 1 = .ok (.getfield 41, 3) := by decide +kernel
theorem dX6_leavesLine_4 : decode cX6_leavesLine 4 = .ok (.bipush 112, 2) := by decide +kernel
theorem dX6_leavesLine_6 : decode cX6_leavesLine 6 = .ok (.iload_n 1, 1) := by decide +kernel
theorem dX6_leavesLine_7 : decode cX6_leavesLine 7 = .ok (.iadd, 1) := by decide +kernel
theorem dX6_leavesLine_8 : decode cX6_leavesLine 8 = .ok (.iaload, 1) := by decide +kernel
theorem dX6_leavesLine_9 : decode cX6_leavesLine 9 = .ok (.ifCond .eq 52, 3) := by decide +kernel
theorem dX6_leavesLine_12 : decode cX6_leavesLine 12 = .ok (.aload_n 0, 1) := by decide +kernel
theorem dX6_leavesLine_13 : decode cX6_leavesLine 13 = .ok (.getfield 41, 3) := by decide +kernel
theorem dX6_leavesLine_16 : decode cX6_leavesLine 16 = .ok (.bipush 82, 2) := by decide +kernel
theorem dX6_leavesLine_18 : decode cX6_leavesLine 18 = .ok (.iload_n 1, 1) := by decide +kernel
theorem dX6_leavesLine_19 : decode cX6_leavesLine 19 = .ok (.iadd, 1) := by decide +kernel
theorem dX6_leavesLine_20 : decode cX6_leavesLine 20 = .ok (.bipush 108, 2) := by decide +kernel
theorem dX6_leavesLine_22 : decode cX6_leavesLine 22 = .ok (.iastore, 1) := by decide +kernel
theorem dX6_leavesLine_23 : decode cX6_leavesLine 23 = .ok (.aload_n 0, 1) := by decide +kernel
theorem dX6_leavesLine_24 : decode cX6_leavesLine 24 = .ok (.getfield 41, 3) := by decide +kernel
theorem dX6_leavesLine_27 : decode cX6_leavesLine 27 = .ok (.sipush 172, 3) := by decide +kernel
theorem dX6_leavesLine_30 : decode cX6_leavesLine 30 = .ok (.aload_n 0, 1) := by decide +kernel
theorem dX6_leavesLine_31 : decode cX6_leavesLine 31 = .ok (.getfield 41, 3) := by decide +kernel
theorem dX6_leavesLine_34 : decode cX6_leavesLine 34 = .ok (.sipush 234, 3) := by decide +kernel
theorem dX6_leavesLine_37 : decode cX6_leavesLine 37 = .ok (.iaload, 1) := by decide +kernel
theorem dX6_leavesLine_38 : decode cX6_leavesLine 38 = .ok (.iadd, 1) := by decide +kernel
theorem dX6_leavesLine_39 : decode cX6_leavesLine 39 = .ok (.iload_n 1, 1) := by decide +kernel
theorem dX6_leavesLine_40 : decode cX6_leavesLine 40 = .ok (.iastore, 1) := by decide +kernel
theorem dX6_leavesLine_41 : decode cX6_leavesLine 41 = .ok (.aload_n 0, 1) := by decide +kernel
theorem dX6_leavesLine_42 : decode cX6_leavesLine 42 = .ok (.getfield 41, 3) := by decide +kernel
theorem dX6_leavesLine_45 : decode cX6_leavesLine 45 = .ok (.sipush 234, 3) := by decide +kernel
theorem dX6_leavesLine_48 : decode cX6_leavesLine 48 = .ok (.dup2, 1) := by decide +kernel
theorem dX6_leavesLine_49 : decode cX6_leavesLine 49 = .ok (.iaload, 1) := by decide +kernel
theorem dX6_leavesLine_50 : decode cX6_leavesLine 50 = .ok (.iconst 1, 1) := by decide +kernel
theorem dX6_leavesLine_51 : decode cX6_leavesLine 51 = .ok (.iadd, 1) := by decide +kernel
theorem dX6_leavesLine_52 : decode cX6_leavesLine 52 = .ok (.iastore, 1) := by decide +kernel
theorem dX6_leavesLine_53 : decode cX6_leavesLine 53 = .ok (.aload_n 0, 1) := by decide +kernel
theorem dX6_leavesLine_54 : decode cX6_leavesLine 54 = .ok (.iload_n 1, 1) := by decide +kernel
theorem dX6_leavesLine_55 : decode cX6_leavesLine 55 = .ok (.bipush 76, 2) := by decide +kernel
theorem dX6_leavesLine_57 : decode cX6_leavesLine 57 = .ok (.invokevirtual 107, 3) := by decide +kernel
theorem dX6_leavesLine_60 : decode cX6_leavesLine 60 = .ok (.return_, 1) := by decide +kernel
theorem dX6_leavesLine_61 : decode cX6_leavesLine 61 = .ok (.aload_n 0, 1) := by decide +kernel
theorem dX6_leavesLine_62 : decode cX6_leavesLine 62 = .ok (.getfield 41, 3) := by decide +kernel
theorem dX6_leavesLine_65 : decode cX6_leavesLine 65 = .ok (.bipush 82, 2) := by decide +kernel
theorem dX6_leavesLine_67 : decode cX6_leavesLine 67 = .ok (.iload_n 1, 1) := by decide +kernel
theorem dX6_leavesLine_68 : decode cX6_leavesLine 68 = .ok (.iadd, 1) := by decide +kernel
theorem dX6_leavesLine_69 : decode cX6_leavesLine 69 = .ok (.bipush 100, 2) := by decide +kernel
theorem dX6_leavesLine_71 : decode cX6_leavesLine 71 = .ok (.iastore, 1) := by decide +kernel
theorem dX6_leavesLine_72 : decode cX6_leavesLine 72 = .ok (.aload_n 0, 1) := by decide +kernel
theorem dX6_leavesLine_73 : decode cX6_leavesLine 73 = .ok (.getfield 41, 3) := by decide +kernel
theorem dX6_leavesLine_76 : decode cX6_leavesLine 76 = .ok (.sipush 202, 3) := by decide +kernel
theorem dX6_leavesLine_79 : decode cX6_leavesLine 79 = .ok (.aload_n 0, 1) := by decide +kernel
theorem dX6_leavesLine_80 : decode cX6_leavesLine 80 = .ok (.getfield 41, 3) := by decide +kernel
theorem dX6_leavesLine_83 : decode cX6_leavesLine 83 = .ok (.sipush 235, 3) := by decide +kernel
theorem dX6_leavesLine_86 : decode cX6_leavesLine 86 = .ok (.iaload, 1) := by decide +kernel
theorem dX6_leavesLine_87 : decode cX6_leavesLine 87 = .ok (.iadd, 1) := by decide +kernel
theorem dX6_leavesLine_88 : decode cX6_leavesLine 88 = .ok (.iload_n 1, 1) := by decide +kernel
theorem dX6_leavesLine_89 : decode cX6_leavesLine 89 = .ok (.iastore, 1) := by decide +kernel
theorem dX6_leavesLine_90 : decode cX6_leavesLine 90 = .ok (.aload_n 0, 1) := by decide +kernel
theorem dX6_leavesLine_91 : decode cX6_leavesLine 91 = .ok (.getfield 41, 3) := by decide +kernel
theorem dX6_leavesLine_94 : decode cX6_leavesLine 94 = .ok (.sipush 235, 3) := by decide +kernel
theorem dX6_leavesLine_97 : decode cX6_leavesLine 97 = .ok (.dup2, 1) := by decide +kernel
theorem dX6_leavesLine_98 : decode cX6_leavesLine 98 = .ok (.iaload, 1) := by decide +kernel
theorem dX6_leavesLine_99 : decode cX6_leavesLine 99 = .ok (.iconst 1, 1) := by decide +kernel
theorem dX6_leavesLine_100 : decode cX6_leavesLine 100 = .ok (.iadd, 1) := by decide +kernel
theorem dX6_leavesLine_101 : decode cX6_leavesLine 101 = .ok (.iastore, 1) := by decide +kernel
theorem dX6_leavesLine_102 : decode cX6_leavesLine 102 = .ok (.aload_n 0, 1) := by decide +kernel
theorem dX6_leavesLine_103 : decode cX6_leavesLine 103 = .ok (.iload_n 1, 1) := by decide +kernel
theorem dX6_leavesLine_104 : decode cX6_leavesLine 104 = .ok (.bipush 120, 2) := by decide +kernel
theorem dX6_leavesLine_106 : decode cX6_leavesLine 106 = .ok (.invokevirtual 107, 3) := by decide +kernel
theorem dX6_leavesLine_109 : decode cX6_leavesLine 109 = .ok (.aload_n 0, 1) := by decide +kernel
theorem dX6_leavesLine_110 : decode cX6_leavesLine 110 = .ok (.getfield 100, 3) := by decide +kernel
theorem dX6_leavesLine_113 : decode cX6_leavesLine 113 = .ok (.ifCond .ne 17, 3) := by decide +kernel
theorem dX6_leavesLine_116 : decode cX6_leavesLine 116 = .ok (.aload_n 0, 1) := by decide +kernel
theorem dX6_leavesLine_117 : decode cX6_leavesLine 117 = .ok (.getfield 35, 3) := by decide +kernel
theorem dX6_leavesLine_120 : decode cX6_leavesLine 120 = .ok (.iload_n 1, 1) := by decide +kernel
theorem dX6_leavesLine_121 : decode cX6_leavesLine 121 = .ok (.aload_n 0, 1) := by decide +kernel
theorem dX6_leavesLine_122 : decode cX6_leavesLine 122 = .ok (.getfield 41, 3) := by decide +kernel
theorem dX6_leavesLine_125 : decode cX6_leavesLine 125 = .ok (.sipush 232, 3) := by decide +kernel
theorem dX6_leavesLine_128 : decode cX6_leavesLine 128 = .ok (.iaload, 1) := by decide +kernel
theorem dX6_leavesLine_129 : decode cX6_leavesLine 129 = .ok (.iastore, 1) := by decide +kernel
theorem dX6_leavesLine_130 : decode cX6_leavesLine 130 = .ok (.return_, 1) := by decide +kernel
theorem dX6_goesOn_0 : decode cX6_goesOn 0 = .ok (.aload_n 0, 1) := by decide +kernel
theorem dX6_goesOn_1 : decode cX6_goesOn 1 = .ok (.getfield 41, 3) := by decide +kernel
theorem dX6_goesOn_4 : decode cX6_goesOn 4 = .ok (.bipush 14, 2) := by decide +kernel
theorem dX6_goesOn_6 : decode cX6_goesOn 6 = .ok (.iload_n 1, 1) := by decide +kernel
theorem dX6_goesOn_7 : decode cX6_goesOn 7 = .ok (.iadd, 1) := by decide +kernel
theorem dX6_goesOn_8 : decode cX6_goesOn 8 = .ok (.iaload, 1) := by decide +kernel
theorem dX6_goesOn_9 : decode cX6_goesOn 9 = .ok (.istore_n 2, 1) := by decide +kernel
theorem dX6_goesOn_10 : decode cX6_goesOn 10 = .ok (.iload_n 2, 1) := by decide +kernel
theorem dX6_goesOn_11 : decode cX6_goesOn 11 = .ok (.iconst (-1), 1) := by decide +kernel
theorem dX6_goesOn_12 : decode cX6_goesOn 12 = .ok (.if_icmp .eq 15, 3) := by decide +kernel
theorem dX6_goesOn_15 : decode cX6_goesOn 15 = .ok (.aload_n 0, 1) := by decide +kernel
theorem dX6_goesOn_16 : decode cX6_goesOn 16 = .ok (.getfield 41, 3) := by decide +kernel
theorem dX6_goesOn_19 : decode cX6_goesOn 19 = .ok (.bipush 22, 2) := by decide +kernel
theorem dX6_goesOn_21 : decode cX6_goesOn 21 = .ok (.iload_n 2, 1) := by decide +kernel
theorem dX6_goesOn_22 : decode cX6_goesOn 22 = .ok (.iadd, 1) := by decide +kernel
theorem dX6_goesOn_23 : decode cX6_goesOn 23 = .ok (.iaload, 1) := by decide +kernel
theorem dX6_goesOn_24 : decode cX6_goesOn 24 = .ok (.ifCond .le 4, 3) := by decide +kernel
theorem dX6_goesOn_27 : decode cX6_goesOn 27 = .ok (.return_, 1) := by decide +kernel
theorem dX6_goesOn_28 : decode cX6_goesOn 28 = .ok (.aload_n 0, 1) := by decide +kernel
theorem dX6_goesOn_29 : decode cX6_goesOn 29 = .ok (.getfield 41, 3) := by decide +kernel
theorem dX6_goesOn_32 : decode cX6_goesOn 32 = .ok (.bipush 52, 2) := by decide +kernel
theorem dX6_goesOn_34 : decode cX6_goesOn 34 = .ok (.iload_n 2, 1) := by decide +kernel
theorem dX6_goesOn_35 : decode cX6_goesOn 35 = .ok (.iadd, 1) := by decide +kernel
theorem dX6_goesOn_36 : decode cX6_goesOn 36 = .ok (.iaload, 1) := by decide +kernel
theorem dX6_goesOn_37 : decode cX6_goesOn 37 = .ok (.iconst 1, 1) := by decide +kernel
theorem dX6_goesOn_38 : decode cX6_goesOn 38 = .ok (.if_icmp .eq 13, 3) := by decide +kernel
theorem dX6_goesOn_41 : decode cX6_goesOn 41 = .ok (.iload_n 1, 1) := by decide +kernel
theorem dX6_goesOn_42 : decode cX6_goesOn 42 = .ok (.aload_n 0, 1) := by decide +kernel
theorem dX6_goesOn_43 : decode cX6_goesOn 43 = .ok (.getfield 71, 3) := by decide +kernel
theorem dX6_goesOn_46 : decode cX6_goesOn 46 = .ok (.iconst 1, 1) := by decide +kernel
theorem dX6_goesOn_47 : decode cX6_goesOn 47 = .ok (.isub, 1) := by decide +kernel
theorem dX6_goesOn_48 : decode cX6_goesOn 48 = .ok (.if_icmp .ne 21, 3) := by decide +kernel
theorem dX6_goesOn_51 : decode cX6_goesOn 51 = .ok (.aload_n 0, 1) := by decide +kernel
theorem dX6_goesOn_52 : decode cX6_goesOn 52 = .ok (.getfield 41, 3) := by decide +kernel
theorem dX6_goesOn_55 : decode cX6_goesOn 55 = .ok (.bipush 14, 2) := by decide +kernel
theorem dX6_goesOn_57 : decode cX6_goesOn 57 = .ok (.iload_n 1, 1) := by decide +kernel
theorem dX6_goesOn_58 : decode cX6_goesOn 58 = .ok (.iadd, 1) := by decide +kernel
theorem dX6_goesOn_59 : decode cX6_goesOn 59 = .ok (.iconst (-1), 1) := by decide +kernel
theorem dX6_goesOn_60 : decode cX6_goesOn 60 = .ok (.iastore, 1) := by decide +kernel
theorem dX6_goesOn_61 : decode cX6_goesOn 61 = .ok (.aload_n 0, 1) := by decide +kernel
theorem dX6_goesOn_62 : decode cX6_goesOn 62 = .ok (.iload_n 2, 1) := by decide +kernel
theorem dX6_goesOn_63 : decode cX6_goesOn 63 = .ok (.invokevirtual 115, 3) := by decide +kernel
theorem dX6_goesOn_66 : decode cX6_goesOn 66 = .ok (.goto 37, 3) := by decide +kernel
theorem dX6_goesOn_69 : decode cX6_goesOn 69 = .ok (.aload_n 0, 1) := by decide +kernel
theorem dX6_goesOn_70 : decode cX6_goesOn 70 = .ok (.getfield 41, 3) := by decide +kernel
theorem dX6_goesOn_73 : decode cX6_goesOn 73 = .ok (.bipush 14, 2) := by decide +kernel
theorem dX6_goesOn_75 : decode cX6_goesOn 75 = .ok (.iload_n 1, 1) := by decide +kernel
theorem dX6_goesOn_76 : decode cX6_goesOn 76 = .ok (.iadd, 1) := by decide +kernel
theorem dX6_goesOn_77 : decode cX6_goesOn 77 = .ok (.iconst 1, 1) := by decide +kernel
theorem dX6_goesOn_78 : decode cX6_goesOn 78 = .ok (.iadd, 1) := by decide +kernel
theorem dX6_goesOn_79 : decode cX6_goesOn 79 = .ok (.iaload, 1) := by decide +kernel
theorem dX6_goesOn_80 : decode cX6_goesOn 80 = .ok (.iconst (-1), 1) := by decide +kernel
theorem dX6_goesOn_81 : decode cX6_goesOn 81 = .ok (.if_icmp .ne 22, 3) := by decide +kernel
theorem dX6_goesOn_84 : decode cX6_goesOn 84 = .ok (.aload_n 0, 1) := by decide +kernel
theorem dX6_goesOn_85 : decode cX6_goesOn 85 = .ok (.getfield 41, 3) := by decide +kernel
theorem dX6_goesOn_88 : decode cX6_goesOn 88 = .ok (.bipush 14, 2) := by decide +kernel
theorem dX6_goesOn_90 : decode cX6_goesOn 90 = .ok (.iload_n 1, 1) := by decide +kernel
theorem dX6_goesOn_91 : decode cX6_goesOn 91 = .ok (.iadd, 1) := by decide +kernel
theorem dX6_goesOn_92 : decode cX6_goesOn 92 = .ok (.iconst (-1), 1) := by decide +kernel
theorem dX6_goesOn_93 : decode cX6_goesOn 93 = .ok (.iastore, 1) := by decide +kernel
theorem dX6_goesOn_94 : decode cX6_goesOn 94 = .ok (.aload_n 0, 1) := by decide +kernel
theorem dX6_goesOn_95 : decode cX6_goesOn 95 = .ok (.iload_n 2, 1) := by decide +kernel
theorem dX6_goesOn_96 : decode cX6_goesOn 96 = .ok (.iload_n 1, 1) := by decide +kernel
theorem dX6_goesOn_97 : decode cX6_goesOn 97 = .ok (.iconst 1, 1) := by decide +kernel
theorem dX6_goesOn_98 : decode cX6_goesOn 98 = .ok (.iadd, 1) := by decide +kernel
theorem dX6_goesOn_99 : decode cX6_goesOn 99 = .ok (.iconst 0, 1) := by decide +kernel
theorem dX6_goesOn_100 : decode cX6_goesOn 100 = .ok (.invokevirtual 119, 3) := by decide +kernel
theorem dX6_goesOn_103 : decode cX6_goesOn 103 = .ok (.return_, 1) := by decide +kernel
theorem dX6_lowest_0 : decode cX6_lowest 0 = .ok (.iconst 0, 1) := by decide +kernel
theorem dX6_lowest_1 : decode cX6_lowest 1 = .ok (.istore_n 1, 1) := by decide +kernel
theorem dX6_lowest_2 : decode cX6_lowest 2 = .ok (.iload_n 0, 1) := by decide +kernel
theorem dX6_lowest_3 : decode cX6_lowest 3 = .ok (.iload_n 1, 1) := by decide +kernel
theorem dX6_lowest_4 : decode cX6_lowest 4 = .ok (.ishr, 1) := by decide +kernel
theorem dX6_lowest_5 : decode cX6_lowest 5 = .ok (.iconst 1, 1) := by decide +kernel
theorem dX6_lowest_6 : decode cX6_lowest 6 = .ok (.iand, 1) := by decide +kernel
theorem dX6_lowest_7 : decode cX6_lowest 7 = .ok (.ifCond .ne 9, 3) := by decide +kernel
theorem dX6_lowest_10 : decode cX6_lowest 10 = .ok (.iinc 1 1, 3) := by decide +kernel
theorem dX6_lowest_13 : decode cX6_lowest 13 = .ok (.goto (-11), 3) := by decide +kernel
theorem dX6_lowest_16 : decode cX6_lowest 16 = .ok (.iload_n 1, 1) := by decide +kernel
theorem dX6_lowest_17 : decode cX6_lowest 17 = .ok (.ireturn, 1) := by decide +kernel
theorem dX6_comesBack_0 : decode cX6_comesBack 0 = .ok (.iconst 0, 1) := by decide +kernel
theorem dX6_comesBack_1 : decode cX6_comesBack 1 = .ok (.istore_n 1, 1) := by decide +kernel
theorem dX6_comesBack_2 : decode cX6_comesBack 2 = .ok (.aload_n 0, 1) := by decide +kernel
theorem dX6_comesBack_3 : decode cX6_comesBack 3 = .ok (.getfield 41, 3) := by decide +kernel
theorem dX6_comesBack_6 : decode cX6_comesBack 6 = .ok (.sipush 234, 3) := by decide +kernel
theorem dX6_comesBack_9 : decode cX6_comesBack 9 = .ok (.iaload, 1) := by decide +kernel
theorem dX6_comesBack_10 : decode cX6_comesBack 10 = .ok (.istore_n 2, 1) := by decide +kernel
theorem dX6_comesBack_11 : decode cX6_comesBack 11 = .ok (.iconst 0, 1) := by decide +kernel
theorem dX6_comesBack_12 : decode cX6_comesBack 12 = .ok (.istore_n 3, 1) := by decide +kernel
theorem dX6_comesBack_13 : decode cX6_comesBack 13 = .ok (.iload_n 3, 1) := by decide +kernel
theorem dX6_comesBack_14 : decode cX6_comesBack 14 = .ok (.iload_n 2, 1) := by decide +kernel
theorem dX6_comesBack_15 : decode cX6_comesBack 15 = .ok (.if_icmp .ge 77, 3) := by decide +kernel
theorem dX6_comesBack_18 : decode cX6_comesBack 18 = .ok (.aload_n 0, 1) := by decide +kernel
theorem dX6_comesBack_19 : decode cX6_comesBack 19 = .ok (.getfield 41, 3) := by decide +kernel
theorem dX6_comesBack_22 : decode cX6_comesBack 22 = .ok (.sipush 172, 3) := by decide +kernel
theorem dX6_comesBack_25 : decode cX6_comesBack 25 = .ok (.iload_n 3, 1) := by decide +kernel
theorem dX6_comesBack_26 : decode cX6_comesBack 26 = .ok (.iadd, 1) := by decide +kernel
theorem dX6_comesBack_27 : decode cX6_comesBack 27 = .ok (.iaload, 1) := by decide +kernel
theorem dX6_comesBack_28 : decode cX6_comesBack 28 = .ok (.istore 4, 2) := by decide +kernel
theorem dX6_comesBack_30 : decode cX6_comesBack 30 = .ok (.aload_n 0, 1) := by decide +kernel
theorem dX6_comesBack_31 : decode cX6_comesBack 31 = .ok (.getfield 41, 3) := by decide +kernel
theorem dX6_comesBack_34 : decode cX6_comesBack 34 = .ok (.bipush 112, 2) := by decide +kernel
theorem dX6_comesBack_36 : decode cX6_comesBack 36 = .ok (.iload 4, 2) := by decide +kernel
theorem dX6_comesBack_38 : decode cX6_comesBack 38 = .ok (.iadd, 1) := by decide +kernel
theorem dX6_comesBack_39 : decode cX6_comesBack 39 = .ok (.iaload, 1) := by decide +kernel
theorem dX6_comesBack_40 : decode cX6_comesBack 40 = .ok (.invokestatic 123, 3) := by decide +kernel
theorem dX6_comesBack_43 : decode cX6_comesBack 43 = .ok (.istore 5, 2) := by decide +kernel
theorem dX6_comesBack_45 : decode cX6_comesBack 45 = .ok (.aload_n 0, 1) := by decide +kernel
theorem dX6_comesBack_46 : decode cX6_comesBack 46 = .ok (.getfield 41, 3) := by decide +kernel
theorem dX6_comesBack_49 : decode cX6_comesBack 49 = .ok (.bipush 14, 2) := by decide +kernel
theorem dX6_comesBack_51 : decode cX6_comesBack 51 = .ok (.iload 5, 2) := by decide +kernel
theorem dX6_comesBack_53 : decode cX6_comesBack 53 = .ok (.iadd, 1) := by decide +kernel
theorem dX6_comesBack_54 : decode cX6_comesBack 54 = .ok (.iaload, 1) := by decide +kernel
theorem dX6_comesBack_55 : decode cX6_comesBack 55 = .ok (.iconst (-1), 1) := by decide +kernel
theorem dX6_comesBack_56 : decode cX6_comesBack 56 = .ok (.if_icmp .ne 15, 3) := by decide +kernel
theorem dX6_comesBack_59 : decode cX6_comesBack 59 = .ok (.aload_n 0, 1) := by decide +kernel
theorem dX6_comesBack_60 : decode cX6_comesBack 60 = .ok (.iload 4, 2) := by decide +kernel
theorem dX6_comesBack_62 : decode cX6_comesBack 62 = .ok (.iload 5, 2) := by decide +kernel
theorem dX6_comesBack_64 : decode cX6_comesBack 64 = .ok (.iconst 1, 1) := by decide +kernel
theorem dX6_comesBack_65 : decode cX6_comesBack 65 = .ok (.invokevirtual 119, 3) := by decide +kernel
theorem dX6_comesBack_68 : decode cX6_comesBack 68 = .ok (.goto 18, 3) := by decide +kernel
theorem dX6_comesBack_71 : decode cX6_comesBack 71 = .ok (.aload_n 0, 1) := by decide +kernel
theorem dX6_comesBack_72 : decode cX6_comesBack 72 = .ok (.getfield 41, 3) := by decide +kernel
theorem dX6_comesBack_75 : decode cX6_comesBack 75 = .ok (.sipush 172, 3) := by decide +kernel
theorem dX6_comesBack_78 : decode cX6_comesBack 78 = .ok (.iload_n 1, 1) := by decide +kernel
theorem dX6_comesBack_79 : decode cX6_comesBack 79 = .ok (.iadd, 1) := by decide +kernel
theorem dX6_comesBack_80 : decode cX6_comesBack 80 = .ok (.iload 4, 2) := by decide +kernel
theorem dX6_comesBack_82 : decode cX6_comesBack 82 = .ok (.iastore, 1) := by decide +kernel
theorem dX6_comesBack_83 : decode cX6_comesBack 83 = .ok (.iinc 1 1, 3) := by decide +kernel
theorem dX6_comesBack_86 : decode cX6_comesBack 86 = .ok (.iinc 3 1, 3) := by decide +kernel
theorem dX6_comesBack_89 : decode cX6_comesBack 89 = .ok (.goto (-76), 3) := by decide +kernel
theorem dX6_comesBack_92 : decode cX6_comesBack 92 = .ok (.aload_n 0, 1) := by decide +kernel
theorem dX6_comesBack_93 : decode cX6_comesBack 93 = .ok (.getfield 41, 3) := by decide +kernel
theorem dX6_comesBack_96 : decode cX6_comesBack 96 = .ok (.sipush 234, 3) := by decide +kernel
theorem dX6_comesBack_99 : decode cX6_comesBack 99 = .ok (.iload_n 1, 1) := by decide +kernel
theorem dX6_comesBack_100 : decode cX6_comesBack 100 = .ok (.iastore, 1) := by decide +kernel
theorem dX6_comesBack_101 : decode cX6_comesBack 101 = .ok (.return_, 1) := by decide +kernel
theorem dX6_ticks_0 : decode cX6_ticks 0 = .ok (.aload_n 0, 1) := by decide +kernel
theorem dX6_ticks_1 : decode cX6_ticks 1 = .ok (.getfield 41, 3) := by decide +kernel
theorem dX6_ticks_4 : decode cX6_ticks 4 = .ok (.sipush 232, 3) := by decide +kernel
theorem dX6_ticks_7 : decode cX6_ticks 7 = .ok (.dup2, 1) := by decide +kernel
theorem dX6_ticks_8 : decode cX6_ticks 8 = .ok (.iaload, 1) := by decide +kernel
theorem dX6_ticks_9 : decode cX6_ticks 9 = .ok (.iconst 1, 1) := by decide +kernel
theorem dX6_ticks_10 : decode cX6_ticks 10 = .ok (.iadd, 1) := by decide +kernel
theorem dX6_ticks_11 : decode cX6_ticks 11 = .ok (.iastore, 1) := by decide +kernel
theorem dX6_ticks_12 : decode cX6_ticks 12 = .ok (.aload_n 0, 1) := by decide +kernel
theorem dX6_ticks_13 : decode cX6_ticks 13 = .ok (.getfield 41, 3) := by decide +kernel
theorem dX6_ticks_16 : decode cX6_ticks 16 = .ok (.sipush 232, 3) := by decide +kernel
theorem dX6_ticks_19 : decode cX6_ticks 19 = .ok (.iaload, 1) := by decide +kernel
theorem dX6_ticks_20 : decode cX6_ticks 20 = .ok (.aload_n 0, 1) := by decide +kernel
theorem dX6_ticks_21 : decode cX6_ticks 21 = .ok (.getfield 25, 3) := by decide +kernel
theorem dX6_ticks_24 : decode cX6_ticks 24 = .ok (.irem, 1) := by decide +kernel
theorem dX6_ticks_25 : decode cX6_ticks 25 = .ok (.ifCond .ne 7, 3) := by decide +kernel
theorem dX6_ticks_28 : decode cX6_ticks 28 = .ok (.aload_n 0, 1) := by decide +kernel
theorem dX6_ticks_29 : decode cX6_ticks 29 = .ok (.invokevirtual 126, 3) := by decide +kernel
theorem dX6_ticks_32 : decode cX6_ticks 32 = .ok (.iconst 0, 1) := by decide +kernel
theorem dX6_ticks_33 : decode cX6_ticks 33 = .ok (.istore_n 1, 1) := by decide +kernel
theorem dX6_ticks_34 : decode cX6_ticks 34 = .ok (.iload_n 1, 1) := by decide +kernel
theorem dX6_ticks_35 : decode cX6_ticks 35 = .ok (.aload_n 0, 1) := by decide +kernel
theorem dX6_ticks_36 : decode cX6_ticks 36 = .ok (.getfield 71, 3) := by decide +kernel
theorem dX6_ticks_39 : decode cX6_ticks 39 = .ok (.if_icmp .ge 49, 3) := by decide +kernel
theorem dX6_ticks_42 : decode cX6_ticks 42 = .ok (.aload_n 0, 1) := by decide +kernel
theorem dX6_ticks_43 : decode cX6_ticks 43 = .ok (.getfield 41, 3) := by decide +kernel
theorem dX6_ticks_46 : decode cX6_ticks 46 = .ok (.bipush 14, 2) := by decide +kernel
theorem dX6_ticks_48 : decode cX6_ticks 48 = .ok (.iload_n 1, 1) := by decide +kernel
theorem dX6_ticks_49 : decode cX6_ticks 49 = .ok (.iadd, 1) := by decide +kernel
theorem dX6_ticks_50 : decode cX6_ticks 50 = .ok (.iaload, 1) := by decide +kernel
theorem dX6_ticks_51 : decode cX6_ticks 51 = .ok (.istore_n 2, 1) := by decide +kernel
theorem dX6_ticks_52 : decode cX6_ticks 52 = .ok (.iload_n 2, 1) := by decide +kernel
theorem dX6_ticks_53 : decode cX6_ticks 53 = .ok (.iconst (-1), 1) := by decide +kernel
theorem dX6_ticks_54 : decode cX6_ticks 54 = .ok (.if_icmp .eq 28, 3) := by decide +kernel
theorem dX6_ticks_57 : decode cX6_ticks 57 = .ok (.aload_n 0, 1) := by decide +kernel
theorem dX6_ticks_58 : decode cX6_ticks 58 = .ok (.getfield 41, 3) := by decide +kernel
theorem dX6_ticks_61 : decode cX6_ticks 61 = .ok (.bipush 22, 2) := by decide +kernel
theorem dX6_ticks_63 : decode cX6_ticks 63 = .ok (.iload_n 2, 1) := by decide +kernel
theorem dX6_ticks_64 : decode cX6_ticks 64 = .ok (.iadd, 1) := by decide +kernel
theorem dX6_ticks_65 : decode cX6_ticks 65 = .ok (.iaload, 1) := by decide +kernel
theorem dX6_ticks_66 : decode cX6_ticks 66 = .ok (.ifCond .le 16, 3) := by decide +kernel
theorem dX6_ticks_69 : decode cX6_ticks 69 = .ok (.aload_n 0, 1) := by decide +kernel
theorem dX6_ticks_70 : decode cX6_ticks 70 = .ok (.getfield 41, 3) := by decide +kernel
theorem dX6_ticks_73 : decode cX6_ticks 73 = .ok (.bipush 22, 2) := by decide +kernel
theorem dX6_ticks_75 : decode cX6_ticks 75 = .ok (.iload_n 2, 1) := by decide +kernel
theorem dX6_ticks_76 : decode cX6_ticks 76 = .ok (.iadd, 1) := by decide +kernel
theorem dX6_ticks_77 : decode cX6_ticks 77 = .ok (.dup2, 1) := by decide +kernel
theorem dX6_ticks_78 : decode cX6_ticks 78 = .ok (.iaload, 1) := by decide +kernel
theorem dX6_ticks_79 : decode cX6_ticks 79 = .ok (.iconst 1, 1) := by decide +kernel
theorem dX6_ticks_80 : decode cX6_ticks 80 = .ok (.isub, 1) := by decide +kernel
theorem dX6_ticks_81 : decode cX6_ticks 81 = .ok (.iastore, 1) := by decide +kernel
theorem dX6_ticks_82 : decode cX6_ticks 82 = .ok (.iinc 1 1, 3) := by decide +kernel
theorem dX6_ticks_85 : decode cX6_ticks 85 = .ok (.goto (-51), 3) := by decide +kernel
theorem dX6_ticks_88 : decode cX6_ticks 88 = .ok (.aload_n 0, 1) := by decide +kernel
theorem dX6_ticks_89 : decode cX6_ticks 89 = .ok (.getfield 71, 3) := by decide +kernel
theorem dX6_ticks_92 : decode cX6_ticks 92 = .ok (.iconst 1, 1) := by decide +kernel
theorem dX6_ticks_93 : decode cX6_ticks 93 = .ok (.isub, 1) := by decide +kernel
theorem dX6_ticks_94 : decode cX6_ticks 94 = .ok (.istore_n 1, 1) := by decide +kernel
theorem dX6_ticks_95 : decode cX6_ticks 95 = .ok (.iload_n 1, 1) := by decide +kernel
theorem dX6_ticks_96 : decode cX6_ticks 96 = .ok (.ifCond .lt 14, 3) := by decide +kernel
theorem dX6_ticks_99 : decode cX6_ticks 99 = .ok (.aload_n 0, 1) := by decide +kernel
theorem dX6_ticks_100 : decode cX6_ticks 100 = .ok (.iload_n 1, 1) := by decide +kernel
theorem dX6_ticks_101 : decode cX6_ticks 101 = .ok (.invokevirtual 129, 3) := by decide +kernel
theorem dX6_ticks_104 : decode cX6_ticks 104 = .ok (.iinc 1 (-1), 3) := by decide +kernel
theorem dX6_ticks_107 : decode cX6_ticks 107 = .ok (.goto (-12), 3) := by decide +kernel
theorem dX6_ticks_110 : decode cX6_ticks 110 = .ok (.aload_n 0, 1) := by decide +kernel
theorem dX6_ticks_111 : decode cX6_ticks 111 = .ok (.invokevirtual 132, 3) := by decide +kernel
theorem dX6_ticks_114 : decode cX6_ticks 114 = .ok (.aload_n 0, 1) := by decide +kernel
theorem dX6_ticks_115 : decode cX6_ticks 115 = .ok (.getfield 41, 3) := by decide +kernel
theorem dX6_ticks_118 : decode cX6_ticks 118 = .ok (.sipush 233, 3) := by decide +kernel
theorem dX6_ticks_121 : decode cX6_ticks 121 = .ok (.iaload, 1) := by decide +kernel
theorem dX6_ticks_122 : decode cX6_ticks 122 = .ok (.ifCond .le 84, 3) := by decide +kernel
theorem dX6_ticks_125 : decode cX6_ticks 125 = .ok (.aload_n 0, 1) := by decide +kernel
theorem dX6_ticks_126 : decode cX6_ticks 126 = .ok (.getfield 41, 3) := by decide +kernel
theorem dX6_ticks_129 : decode cX6_ticks 129 = .ok (.bipush 14, 2) := by decide +kernel
theorem dX6_ticks_131 : decode cX6_ticks 131 = .ok (.iaload, 1) := by decide +kernel
theorem dX6_ticks_132 : decode cX6_ticks 132 = .ok (.iconst (-1), 1) := by decide +kernel
theorem dX6_ticks_133 : decode cX6_ticks 133 = .ok (.if_icmp .ne 73, 3) := by decide +kernel
theorem dX6_ticks_136 : decode cX6_ticks 136 = .ok (.aload_n 0, 1) := by decide +kernel
theorem dX6_ticks_137 : decode cX6_ticks 137 = .ok (.getfield 41, 3) := by decide +kernel
theorem dX6_ticks_140 : decode cX6_ticks 140 = .ok (.sipush 142, 3) := by decide +kernel
theorem dX6_ticks_143 : decode cX6_ticks 143 = .ok (.iaload, 1) := by decide +kernel
theorem dX6_ticks_144 : decode cX6_ticks 144 = .ok (.istore_n 1, 1) := by decide +kernel
theorem dX6_ticks_145 : decode cX6_ticks 145 = .ok (.aload_n 0, 1) := by decide +kernel
theorem dX6_ticks_146 : decode cX6_ticks 146 = .ok (.getfield 41, 3) := by decide +kernel
theorem dX6_ticks_149 : decode cX6_ticks 149 = .ok (.sipush 233, 3) := by decide +kernel
theorem dX6_ticks_152 : decode cX6_ticks 152 = .ok (.dup2, 1) := by decide +kernel
theorem dX6_ticks_153 : decode cX6_ticks 153 = .ok (.iaload, 1) := by decide +kernel
theorem dX6_ticks_154 : decode cX6_ticks 154 = .ok (.iconst 1, 1) := by decide +kernel
theorem dX6_ticks_155 : decode cX6_ticks 155 = .ok (.isub, 1) := by decide +kernel
theorem dX6_ticks_156 : decode cX6_ticks 156 = .ok (.iastore, 1) := by decide +kernel
theorem dX6_ticks_157 : decode cX6_ticks 157 = .ok (.iconst 0, 1) := by decide +kernel
theorem dX6_ticks_158 : decode cX6_ticks 158 = .ok (.istore_n 2, 1) := by decide +kernel
theorem dX6_ticks_159 : decode cX6_ticks 159 = .ok (.iload_n 2, 1) := by decide +kernel
theorem dX6_ticks_160 : decode cX6_ticks 160 = .ok (.aload_n 0, 1) := by decide +kernel
theorem dX6_ticks_161 : decode cX6_ticks 161 = .ok (.getfield 41, 3) := by decide +kernel
theorem dX6_ticks_164 : decode cX6_ticks 164 = .ok (.sipush 233, 3) := by decide +kernel
theorem dX6_ticks_167 : decode cX6_ticks 167 = .ok (.iaload, 1) := by decide +kernel
theorem dX6_ticks_168 : decode cX6_ticks 168 = .ok (.if_icmp .ge 31, 3) := by decide +kernel
theorem dX6_ticks_171 : decode cX6_ticks 171 = .ok (.aload_n 0, 1) := by decide +kernel
theorem dX6_ticks_172 : decode cX6_ticks 172 = .ok (.getfield 41, 3) := by decide +kernel
theorem dX6_ticks_175 : decode cX6_ticks 175 = .ok (.sipush 142, 3) := by decide +kernel
theorem dX6_ticks_178 : decode cX6_ticks 178 = .ok (.iload_n 2, 1) := by decide +kernel
theorem dX6_ticks_179 : decode cX6_ticks 179 = .ok (.iadd, 1) := by decide +kernel
theorem dX6_ticks_180 : decode cX6_ticks 180 = .ok (.aload_n 0, 1) := by decide +kernel
theorem dX6_ticks_181 : decode cX6_ticks 181 = .ok (.getfield 41, 3) := by decide +kernel
theorem dX6_ticks_184 : decode cX6_ticks 184 = .ok (.sipush 142, 3) := by decide +kernel
theorem dX6_ticks_187 : decode cX6_ticks 187 = .ok (.iload_n 2, 1) := by decide +kernel
theorem dX6_ticks_188 : decode cX6_ticks 188 = .ok (.iadd, 1) := by decide +kernel
theorem dX6_ticks_189 : decode cX6_ticks 189 = .ok (.iconst 1, 1) := by decide +kernel
theorem dX6_ticks_190 : decode cX6_ticks 190 = .ok (.iadd, 1) := by decide +kernel
theorem dX6_ticks_191 : decode cX6_ticks 191 = .ok (.iaload, 1) := by decide +kernel
theorem dX6_ticks_192 : decode cX6_ticks 192 = .ok (.iastore, 1) := by decide +kernel
theorem dX6_ticks_193 : decode cX6_ticks 193 = .ok (.iinc 2 1, 3) := by decide +kernel
theorem dX6_ticks_196 : decode cX6_ticks 196 = .ok (.goto (-37), 3) := by decide +kernel
theorem dX6_ticks_199 : decode cX6_ticks 199 = .ok (.aload_n 0, 1) := by decide +kernel
theorem dX6_ticks_200 : decode cX6_ticks 200 = .ok (.iload_n 1, 1) := by decide +kernel
theorem dX6_ticks_201 : decode cX6_ticks 201 = .ok (.iconst 0, 1) := by decide +kernel
theorem dX6_ticks_202 : decode cX6_ticks 202 = .ok (.iconst 0, 1) := by decide +kernel
theorem dX6_ticks_203 : decode cX6_ticks 203 = .ok (.invokevirtual 119, 3) := by decide +kernel
theorem dX6_ticks_206 : decode cX6_ticks 206 = .ok (.return_, 1) := by decide +kernel
theorem dX6_tick_0 : decode cX6_tick 0 = .ok (.aload_n 0, 1) := by decide +kernel
theorem dX6_tick_1 : decode cX6_tick 1 = .ok (.iload_n 1, 1) := by decide +kernel
theorem dX6_tick_2 : decode cX6_tick 2 = .ok (.i2l, 1) := by decide +kernel
theorem dX6_tick_3 : decode cX6_tick 3 = .ok (.lconst 1, 1) := by decide +kernel
theorem dX6_tick_4 : decode cX6_tick 4 = .ok (.ldc2_w 80, 3) := by decide +kernel
theorem dX6_tick_7 : decode cX6_tick 7 = .ok (.invokestatic 59, 3) := by decide +kernel
theorem dX6_tick_10 : decode cX6_tick 10 = .ok (.ifCond .ne 7, 3) := by decide +kernel
theorem dX6_tick_13 : decode cX6_tick 13 = .ok (.iconst 1, 1) := by decide +kernel
theorem dX6_tick_14 : decode cX6_tick 14 = .ok (.goto 31, 3) := by decide +kernel
theorem dX6_tick_17 : decode cX6_tick 17 = .ok (.aload_n 0, 1) := by decide +kernel
theorem dX6_tick_18 : decode cX6_tick 18 = .ok (.getfield 71, 3) := by decide +kernel
theorem dX6_tick_21 : decode cX6_tick 21 = .ok (.ifCond .eq 19, 3) := by decide +kernel
theorem dX6_tick_24 : decode cX6_tick 24 = .ok (.aload_n 0, 1) := by decide +kernel
theorem dX6_tick_25 : decode cX6_tick 25 = .ok (.getfield 41, 3) := by decide +kernel
theorem dX6_tick_28 : decode cX6_tick 28 = .ok (.sipush 232, 3) := by decide +kernel
theorem dX6_tick_31 : decode cX6_tick 31 = .ok (.iaload, 1) := by decide +kernel
theorem dX6_tick_32 : decode cX6_tick 32 = .ok (.iload_n 1, 1) := by decide +kernel
theorem dX6_tick_33 : decode cX6_tick 33 = .ok (.iadd, 1) := by decide +kernel
theorem dX6_tick_34 : decode cX6_tick 34 = .ok (.sipush 9999, 3) := by decide +kernel
theorem dX6_tick_37 : decode cX6_tick 37 = .ok (.if_icmp .le 7, 3) := by decide +kernel
theorem dX6_tick_40 : decode cX6_tick 40 = .ok (.iconst 2, 1) := by decide +kernel
theorem dX6_tick_41 : decode cX6_tick 41 = .ok (.goto 4, 3) := by decide +kernel
theorem dX6_tick_44 : decode cX6_tick 44 = .ok (.iconst 0, 1) := by decide +kernel
theorem dX6_tick_45 : decode cX6_tick 45 = .ok (.putfield 54, 3) := by decide +kernel
theorem dX6_tick_48 : decode cX6_tick 48 = .ok (.aload_n 0, 1) := by decide +kernel
theorem dX6_tick_49 : decode cX6_tick 49 = .ok (.getfield 54, 3) := by decide +kernel
theorem dX6_tick_52 : decode cX6_tick 52 = .ok (.ifCond .le 5, 3) := by decide +kernel
theorem dX6_tick_55 : decode cX6_tick 55 = .ok (.iconst (-1), 1) := by decide +kernel
theorem dX6_tick_56 : decode cX6_tick 56 = .ok (.ireturn, 1) := by decide +kernel
theorem dX6_tick_57 : decode cX6_tick 57 = .ok (.aload_n 0, 1) := by decide +kernel
theorem dX6_tick_58 : decode cX6_tick 58 = .ok (.getfield 41, 3) := by decide +kernel
theorem dX6_tick_61 : decode cX6_tick 61 = .ok (.sipush 235, 3) := by decide +kernel
theorem dX6_tick_64 : decode cX6_tick 64 = .ok (.iaload, 1) := by decide +kernel
theorem dX6_tick_65 : decode cX6_tick 65 = .ok (.istore_n 2, 1) := by decide +kernel
theorem dX6_tick_66 : decode cX6_tick 66 = .ok (.iconst 0, 1) := by decide +kernel
theorem dX6_tick_67 : decode cX6_tick 67 = .ok (.istore_n 3, 1) := by decide +kernel
theorem dX6_tick_68 : decode cX6_tick 68 = .ok (.iload_n 3, 1) := by decide +kernel
theorem dX6_tick_69 : decode cX6_tick 69 = .ok (.iload_n 1, 1) := by decide +kernel
theorem dX6_tick_70 : decode cX6_tick 70 = .ok (.if_icmp .ge 13, 3) := by decide +kernel
theorem dX6_tick_73 : decode cX6_tick 73 = .ok (.aload_n 0, 1) := by decide +kernel
theorem dX6_tick_74 : decode cX6_tick 74 = .ok (.invokevirtual 135, 3) := by decide +kernel
theorem dX6_tick_77 : decode cX6_tick 77 = .ok (.iinc 3 1, 3) := by decide +kernel
theorem dX6_tick_80 : decode cX6_tick 80 = .ok (.goto (-12), 3) := by decide +kernel
theorem dX6_tick_83 : decode cX6_tick 83 = .ok (.aload_n 0, 1) := by decide +kernel
theorem dX6_tick_84 : decode cX6_tick 84 = .ok (.getfield 41, 3) := by decide +kernel
theorem dX6_tick_87 : decode cX6_tick 87 = .ok (.sipush 235, 3) := by decide +kernel
theorem dX6_tick_90 : decode cX6_tick 90 = .ok (.iaload, 1) := by decide +kernel
theorem dX6_tick_91 : decode cX6_tick 91 = .ok (.iload_n 2, 1) := by decide +kernel
theorem dX6_tick_92 : decode cX6_tick 92 = .ok (.isub, 1) := by decide +kernel
theorem dX6_tick_93 : decode cX6_tick 93 = .ok (.ireturn, 1) := by decide +kernel
theorem dX6_now_0 : decode cX6_now 0 = .ok (.aload_n 0, 1) := by decide +kernel
theorem dX6_now_1 : decode cX6_now 1 = .ok (.iconst 0, 1) := by decide +kernel
theorem dX6_now_2 : decode cX6_now 2 = .ok (.putfield 54, 3) := by decide +kernel
theorem dX6_now_5 : decode cX6_now 5 = .ok (.aload_n 0, 1) := by decide +kernel
theorem dX6_now_6 : decode cX6_now 6 = .ok (.getfield 41, 3) := by decide +kernel
theorem dX6_now_9 : decode cX6_now 9 = .ok (.sipush 232, 3) := by decide +kernel
theorem dX6_now_12 : decode cX6_now 12 = .ok (.iaload, 1) := by decide +kernel
theorem dX6_now_13 : decode cX6_now 13 = .ok (.ireturn, 1) := by decide +kernel
theorem dX6_stations_0 : decode cX6_stations 0 = .ok (.aload_n 0, 1) := by decide +kernel
theorem dX6_stations_1 : decode cX6_stations 1 = .ok (.iconst 0, 1) := by decide +kernel
theorem dX6_stations_2 : decode cX6_stations 2 = .ok (.putfield 54, 3) := by decide +kernel
theorem dX6_stations_5 : decode cX6_stations 5 = .ok (.aload_n 0, 1) := by decide +kernel
theorem dX6_stations_6 : decode cX6_stations 6 = .ok (.getfield 71, 3) := by decide +kernel
theorem dX6_stations_9 : decode cX6_stations 9 = .ok (.ireturn, 1) := by decide +kernel
theorem dX6_cars_0 : decode cX6_cars 0 = .ok (.aload_n 0, 1) := by decide +kernel
theorem dX6_cars_1 : decode cX6_cars 1 = .ok (.iconst 0, 1) := by decide +kernel
theorem dX6_cars_2 : decode cX6_cars 2 = .ok (.putfield 54, 3) := by decide +kernel
theorem dX6_cars_5 : decode cX6_cars 5 = .ok (.aload_n 0, 1) := by decide +kernel
theorem dX6_cars_6 : decode cX6_cars 6 = .ok (.getfield 84, 3) := by decide +kernel
theorem dX6_cars_9 : decode cX6_cars 9 = .ok (.ireturn, 1) := by decide +kernel
theorem dX6_isAsked_0 : decode cX6_isAsked 0 = .ok (.aload_n 0, 1) := by decide +kernel
theorem dX6_isAsked_1 : decode cX6_isAsked 1 = .ok (.aload_n 0, 1) := by decide +kernel
theorem dX6_isAsked_2 : decode cX6_isAsked 2 = .ok (.iload_n 1, 1) := by decide +kernel
theorem dX6_isAsked_3 : decode cX6_isAsked 3 = .ok (.invokevirtual 87, 3) := by decide +kernel
theorem dX6_isAsked_6 : decode cX6_isAsked 6 = .ok (.ifCond .eq 7, 3) := by decide +kernel
theorem dX6_isAsked_9 : decode cX6_isAsked 9 = .ok (.iconst 0, 1) := by decide +kernel
theorem dX6_isAsked_10 : decode cX6_isAsked 10 = .ok (.goto 4, 3) := by decide +kernel
theorem dX6_isAsked_13 : decode cX6_isAsked 13 = .ok (.iconst 1, 1) := by decide +kernel
theorem dX6_isAsked_14 : decode cX6_isAsked 14 = .ok (.putfield 54, 3) := by decide +kernel
theorem dX6_isAsked_17 : decode cX6_isAsked 17 = .ok (.aload_n 0, 1) := by decide +kernel
theorem dX6_isAsked_18 : decode cX6_isAsked 18 = .ok (.getfield 54, 3) := by decide +kernel
theorem dX6_isAsked_21 : decode cX6_isAsked 21 = .ok (.ifCond .ne 7, 3) := by decide +kernel
theorem dX6_isAsked_24 : decode cX6_isAsked 24 = .ok (.iconst 1, 1) := by decide +kernel
theorem dX6_isAsked_25 : decode cX6_isAsked 25 = .ok (.goto 4, 3) := by decide +kernel
theorem dX6_isAsked_28 : decode cX6_isAsked 28 = .ok (.iconst 0, 1) := by decide +kernel
theorem dX6_isAsked_29 : decode cX6_isAsked 29 = .ok (.ireturn, 1) := by decide +kernel
theorem dX6_stateOf_0 : decode cX6_stateOf 0 = .ok (.aload_n 0, 1) := by decide +kernel
theorem dX6_stateOf_1 : decode cX6_stateOf 1 = .ok (.iload_n 1, 1) := by decide +kernel
theorem dX6_stateOf_2 : decode cX6_stateOf 2 = .ok (.invokevirtual 138, 3) := by decide +kernel
theorem dX6_stateOf_5 : decode cX6_stateOf 5 = .ok (.ifCond .eq 16, 3) := by decide +kernel
theorem dX6_stateOf_8 : decode cX6_stateOf 8 = .ok (.aload_n 0, 1) := by decide +kernel
theorem dX6_stateOf_9 : decode cX6_stateOf 9 = .ok (.getfield 41, 3) := by decide +kernel
theorem dX6_stateOf_12 : decode cX6_stateOf 12 = .ok (.bipush 82, 2) := by decide +kernel
theorem dX6_stateOf_14 : decode cX6_stateOf 14 = .ok (.iload_n 1, 1) := by decide +kernel
theorem dX6_stateOf_15 : decode cX6_stateOf 15 = .ok (.iadd, 1) := by decide +kernel
theorem dX6_stateOf_16 : decode cX6_stateOf 16 = .ok (.iaload, 1) := by decide +kernel
theorem dX6_stateOf_17 : decode cX6_stateOf 17 = .ok (.i2c, 1) := by decide +kernel
theorem dX6_stateOf_18 : decode cX6_stateOf 18 = .ok (.goto 5, 3) := by decide +kernel
theorem dX6_stateOf_21 : decode cX6_stateOf 21 = .ok (.bipush 32, 2) := by decide +kernel
theorem dX6_stateOf_23 : decode cX6_stateOf 23 = .ok (.ireturn, 1) := by decide +kernel
theorem dX6_standsAt_0 : decode cX6_standsAt 0 = .ok (.iconst (-1), 1) := by decide +kernel
theorem dX6_standsAt_1 : decode cX6_standsAt 1 = .ok (.istore_n 2, 1) := by decide +kernel
theorem dX6_standsAt_2 : decode cX6_standsAt 2 = .ok (.iconst 0, 1) := by decide +kernel
theorem dX6_standsAt_3 : decode cX6_standsAt 3 = .ok (.istore_n 3, 1) := by decide +kernel
theorem dX6_standsAt_4 : decode cX6_standsAt 4 = .ok (.iload_n 3, 1) := by decide +kernel
theorem dX6_standsAt_5 : decode cX6_standsAt 5 = .ok (.aload_n 0, 1) := by decide +kernel
theorem dX6_standsAt_6 : decode cX6_standsAt 6 = .ok (.getfield 71, 3) := by decide +kernel
theorem dX6_standsAt_9 : decode cX6_standsAt 9 = .ok (.if_icmp .ge 28, 3) := by decide +kernel
theorem dX6_standsAt_12 : decode cX6_standsAt 12 = .ok (.aload_n 0, 1) := by decide +kernel
theorem dX6_standsAt_13 : decode cX6_standsAt 13 = .ok (.getfield 41, 3) := by decide +kernel
theorem dX6_standsAt_16 : decode cX6_standsAt 16 = .ok (.bipush 14, 2) := by decide +kernel
theorem dX6_standsAt_18 : decode cX6_standsAt 18 = .ok (.iload_n 3, 1) := by decide +kernel
theorem dX6_standsAt_19 : decode cX6_standsAt 19 = .ok (.iadd, 1) := by decide +kernel
theorem dX6_standsAt_20 : decode cX6_standsAt 20 = .ok (.iaload, 1) := by decide +kernel
theorem dX6_standsAt_21 : decode cX6_standsAt 21 = .ok (.iload_n 1, 1) := by decide +kernel
theorem dX6_standsAt_22 : decode cX6_standsAt 22 = .ok (.if_icmp .ne 7, 3) := by decide +kernel
theorem dX6_standsAt_25 : decode cX6_standsAt 25 = .ok (.iload_n 3, 1) := by decide +kernel
theorem dX6_standsAt_26 : decode cX6_standsAt 26 = .ok (.goto 4, 3) := by decide +kernel
theorem dX6_standsAt_29 : decode cX6_standsAt 29 = .ok (.iload_n 2, 1) := by decide +kernel
theorem dX6_standsAt_30 : decode cX6_standsAt 30 = .ok (.istore_n 2, 1) := by decide +kernel
theorem dX6_standsAt_31 : decode cX6_standsAt 31 = .ok (.iinc 3 1, 3) := by decide +kernel
theorem dX6_standsAt_34 : decode cX6_standsAt 34 = .ok (.goto (-30), 3) := by decide +kernel
theorem dX6_standsAt_37 : decode cX6_standsAt 37 = .ok (.iload_n 2, 1) := by decide +kernel
theorem dX6_standsAt_38 : decode cX6_standsAt 38 = .ok (.ireturn, 1) := by decide +kernel
theorem dX6_stationOf_0 : decode cX6_stationOf 0 = .ok (.aload_n 0, 1) := by decide +kernel
theorem dX6_stationOf_1 : decode cX6_stationOf 1 = .ok (.aload_n 0, 1) := by decide +kernel
theorem dX6_stationOf_2 : decode cX6_stationOf 2 = .ok (.iload_n 1, 1) := by decide +kernel
theorem dX6_stationOf_3 : decode cX6_stationOf 3 = .ok (.invokevirtual 87, 3) := by decide +kernel
theorem dX6_stationOf_6 : decode cX6_stationOf 6 = .ok (.ifCond .ne 7, 3) := by decide +kernel
theorem dX6_stationOf_9 : decode cX6_stationOf 9 = .ok (.iconst 1, 1) := by decide +kernel
theorem dX6_stationOf_10 : decode cX6_stationOf 10 = .ok (.goto 17, 3) := by decide +kernel
theorem dX6_stationOf_13 : decode cX6_stationOf 13 = .ok (.aload_n 0, 1) := by decide +kernel
theorem dX6_stationOf_14 : decode cX6_stationOf 14 = .ok (.iload_n 1, 1) := by decide +kernel
theorem dX6_stationOf_15 : decode cX6_stationOf 15 = .ok (.invokevirtual 141, 3) := by decide +kernel
theorem dX6_stationOf_18 : decode cX6_stationOf 18 = .ok (.iconst (-1), 1) := by decide +kernel
theorem dX6_stationOf_19 : decode cX6_stationOf 19 = .ok (.if_icmp .ne 7, 3) := by decide +kernel
theorem dX6_stationOf_22 : decode cX6_stationOf 22 = .ok (.iconst 2, 1) := by decide +kernel
theorem dX6_stationOf_23 : decode cX6_stationOf 23 = .ok (.goto 4, 3) := by decide +kernel
theorem dX6_stationOf_26 : decode cX6_stationOf 26 = .ok (.iconst 0, 1) := by decide +kernel
theorem dX6_stationOf_27 : decode cX6_stationOf 27 = .ok (.putfield 54, 3) := by decide +kernel
theorem dX6_stationOf_30 : decode cX6_stationOf 30 = .ok (.aload_n 0, 1) := by decide +kernel
theorem dX6_stationOf_31 : decode cX6_stationOf 31 = .ok (.getfield 54, 3) := by decide +kernel
theorem dX6_stationOf_34 : decode cX6_stationOf 34 = .ok (.ifCond .ne 11, 3) := by decide +kernel
theorem dX6_stationOf_37 : decode cX6_stationOf 37 = .ok (.aload_n 0, 1) := by decide +kernel
theorem dX6_stationOf_38 : decode cX6_stationOf 38 = .ok (.iload_n 1, 1) := by decide +kernel
theorem dX6_stationOf_39 : decode cX6_stationOf 39 = .ok (.invokevirtual 141, 3) := by decide +kernel
theorem dX6_stationOf_42 : decode cX6_stationOf 42 = .ok (.goto 4, 3) := by decide +kernel
theorem dX6_stationOf_45 : decode cX6_stationOf 45 = .ok (.iconst (-1), 1) := by decide +kernel
theorem dX6_stationOf_46 : decode cX6_stationOf 46 = .ok (.ireturn, 1) := by decide +kernel
theorem dX6_toGo_0 : decode cX6_toGo 0 = .ok (.aload_n 0, 1) := by decide +kernel
theorem dX6_toGo_1 : decode cX6_toGo 1 = .ok (.aload_n 0, 1) := by decide +kernel
theorem dX6_toGo_2 : decode cX6_toGo 2 = .ok (.iload_n 1, 1) := by decide +kernel
theorem dX6_toGo_3 : decode cX6_toGo 3 = .ok (.invokevirtual 87, 3) := by decide +kernel
theorem dX6_toGo_6 : decode cX6_toGo 6 = .ok (.ifCond .ne 7, 3) := by decide +kernel
theorem dX6_toGo_9 : decode cX6_toGo 9 = .ok (.iconst 1, 1) := by decide +kernel
theorem dX6_toGo_10 : decode cX6_toGo 10 = .ok (.goto 17, 3) := by decide +kernel
theorem dX6_toGo_13 : decode cX6_toGo 13 = .ok (.aload_n 0, 1) := by decide +kernel
theorem dX6_toGo_14 : decode cX6_toGo 14 = .ok (.iload_n 1, 1) := by decide +kernel
theorem dX6_toGo_15 : decode cX6_toGo 15 = .ok (.invokevirtual 141, 3) := by decide +kernel
theorem dX6_toGo_18 : decode cX6_toGo 18 = .ok (.iconst (-1), 1) := by decide +kernel
theorem dX6_toGo_19 : decode cX6_toGo 19 = .ok (.if_icmp .ne 7, 3) := by decide +kernel
theorem dX6_toGo_22 : decode cX6_toGo 22 = .ok (.iconst 2, 1) := by decide +kernel
theorem dX6_toGo_23 : decode cX6_toGo 23 = .ok (.goto 4, 3) := by decide +kernel
theorem dX6_toGo_26 : decode cX6_toGo 26 = .ok (.iconst 0, 1) := by decide +kernel
theorem dX6_toGo_27 : decode cX6_toGo 27 = .ok (.putfield 54, 3) := by decide +kernel
theorem dX6_toGo_30 : decode cX6_toGo 30 = .ok (.aload_n 0, 1) := by decide +kernel
theorem dX6_toGo_31 : decode cX6_toGo 31 = .ok (.getfield 54, 3) := by decide +kernel
theorem dX6_toGo_34 : decode cX6_toGo 34 = .ok (.ifCond .ne 15, 3) := by decide +kernel
theorem dX6_toGo_37 : decode cX6_toGo 37 = .ok (.aload_n 0, 1) := by decide +kernel
theorem dX6_toGo_38 : decode cX6_toGo 38 = .ok (.getfield 41, 3) := by decide +kernel
theorem dX6_toGo_41 : decode cX6_toGo 41 = .ok (.bipush 22, 2) := by decide +kernel
theorem dX6_toGo_43 : decode cX6_toGo 43 = .ok (.iload_n 1, 1) := by decide +kernel
theorem dX6_toGo_44 : decode cX6_toGo 44 = .ok (.iadd, 1) := by decide +kernel
theorem dX6_toGo_45 : decode cX6_toGo 45 = .ok (.iaload, 1) := by decide +kernel
theorem dX6_toGo_46 : decode cX6_toGo 46 = .ok (.goto 4, 3) := by decide +kernel
theorem dX6_toGo_49 : decode cX6_toGo 49 = .ok (.iconst (-1), 1) := by decide +kernel
theorem dX6_toGo_50 : decode cX6_toGo 50 = .ok (.ireturn, 1) := by decide +kernel
theorem dX6_carAt_0 : decode cX6_carAt 0 = .ok (.aload_n 0, 1) := by decide +kernel
theorem dX6_carAt_1 : decode cX6_carAt 1 = .ok (.aload_n 0, 1) := by decide +kernel
theorem dX6_carAt_2 : decode cX6_carAt 2 = .ok (.iload_n 1, 1) := by decide +kernel
theorem dX6_carAt_3 : decode cX6_carAt 3 = .ok (.invokevirtual 94, 3) := by decide +kernel
theorem dX6_carAt_6 : decode cX6_carAt 6 = .ok (.ifCond .ne 7, 3) := by decide +kernel
theorem dX6_carAt_9 : decode cX6_carAt 9 = .ok (.iconst 1, 1) := by decide +kernel
theorem dX6_carAt_10 : decode cX6_carAt 10 = .ok (.goto 21, 3) := by decide +kernel
theorem dX6_carAt_13 : decode cX6_carAt 13 = .ok (.aload_n 0, 1) := by decide +kernel
theorem dX6_carAt_14 : decode cX6_carAt 14 = .ok (.getfield 41, 3) := by decide +kernel
theorem dX6_carAt_17 : decode cX6_carAt 17 = .ok (.bipush 14, 2) := by decide +kernel
theorem dX6_carAt_19 : decode cX6_carAt 19 = .ok (.iload_n 1, 1) := by decide +kernel
theorem dX6_carAt_20 : decode cX6_carAt 20 = .ok (.iadd, 1) := by decide +kernel
theorem dX6_carAt_21 : decode cX6_carAt 21 = .ok (.iaload, 1) := by decide +kernel
theorem dX6_carAt_22 : decode cX6_carAt 22 = .ok (.iconst (-1), 1) := by decide +kernel
theorem dX6_carAt_23 : decode cX6_carAt 23 = .ok (.if_icmp .ne 7, 3) := by decide +kernel
theorem dX6_carAt_26 : decode cX6_carAt 26 = .ok (.iconst 2, 1) := by decide +kernel
theorem dX6_carAt_27 : decode cX6_carAt 27 = .ok (.goto 4, 3) := by decide +kernel
theorem dX6_carAt_30 : decode cX6_carAt 30 = .ok (.iconst 0, 1) := by decide +kernel
theorem dX6_carAt_31 : decode cX6_carAt 31 = .ok (.putfield 54, 3) := by decide +kernel
theorem dX6_carAt_34 : decode cX6_carAt 34 = .ok (.aload_n 0, 1) := by decide +kernel
theorem dX6_carAt_35 : decode cX6_carAt 35 = .ok (.getfield 54, 3) := by decide +kernel
theorem dX6_carAt_38 : decode cX6_carAt 38 = .ok (.ifCond .ne 15, 3) := by decide +kernel
theorem dX6_carAt_41 : decode cX6_carAt 41 = .ok (.aload_n 0, 1) := by decide +kernel
theorem dX6_carAt_42 : decode cX6_carAt 42 = .ok (.getfield 41, 3) := by decide +kernel
theorem dX6_carAt_45 : decode cX6_carAt 45 = .ok (.bipush 14, 2) := by decide +kernel
theorem dX6_carAt_47 : decode cX6_carAt 47 = .ok (.iload_n 1, 1) := by decide +kernel
theorem dX6_carAt_48 : decode cX6_carAt 48 = .ok (.iadd, 1) := by decide +kernel
theorem dX6_carAt_49 : decode cX6_carAt 49 = .ok (.iaload, 1) := by decide +kernel
theorem dX6_carAt_50 : decode cX6_carAt 50 = .ok (.goto 4, 3) := by decide +kernel
theorem dX6_carAt_53 : decode cX6_carAt 53 = .ok (.iconst (-1), 1) := by decide +kernel
theorem dX6_carAt_54 : decode cX6_carAt 54 = .ok (.ireturn, 1) := by decide +kernel
theorem dX6_isBack_0 : decode cX6_isBack 0 = .ok (.aload_n 0, 1) := by decide +kernel
theorem dX6_isBack_1 : decode cX6_isBack 1 = .ok (.iload_n 1, 1) := by decide +kernel
theorem dX6_isBack_2 : decode cX6_isBack 2 = .ok (.invokevirtual 138, 3) := by decide +kernel
theorem dX6_isBack_5 : decode cX6_isBack 5 = .ok (.ifCond .eq 29, 3) := by decide +kernel
theorem dX6_isBack_8 : decode cX6_isBack 8 = .ok (.aload_n 0, 1) := by decide +kernel
theorem dX6_isBack_9 : decode cX6_isBack 9 = .ok (.iload_n 1, 1) := by decide +kernel
theorem dX6_isBack_10 : decode cX6_isBack 10 = .ok (.invokevirtual 141, 3) := by decide +kernel
theorem dX6_isBack_13 : decode cX6_isBack 13 = .ok (.iconst (-1), 1) := by decide +kernel
theorem dX6_isBack_14 : decode cX6_isBack 14 = .ok (.if_icmp .eq 20, 3) := by decide +kernel
theorem dX6_isBack_17 : decode cX6_isBack 17 = .ok (.aload_n 0, 1) := by decide +kernel
theorem dX6_isBack_18 : decode cX6_isBack 18 = .ok (.getfield 41, 3) := by decide +kernel
theorem dX6_isBack_21 : decode cX6_isBack 21 = .ok (.bipush 52, 2) := by decide +kernel
theorem dX6_isBack_23 : decode cX6_isBack 23 = .ok (.iload_n 1, 1) := by decide +kernel
theorem dX6_isBack_24 : decode cX6_isBack 24 = .ok (.iadd, 1) := by decide +kernel
theorem dX6_isBack_25 : decode cX6_isBack 25 = .ok (.iaload, 1) := by decide +kernel
theorem dX6_isBack_26 : decode cX6_isBack 26 = .ok (.iconst 1, 1) := by decide +kernel
theorem dX6_isBack_27 : decode cX6_isBack 27 = .ok (.if_icmp .ne 7, 3) := by decide +kernel
theorem dX6_isBack_30 : decode cX6_isBack 30 = .ok (.iconst 1, 1) := by decide +kernel
theorem dX6_isBack_31 : decode cX6_isBack 31 = .ok (.goto 4, 3) := by decide +kernel
theorem dX6_isBack_34 : decode cX6_isBack 34 = .ok (.iconst 0, 1) := by decide +kernel
theorem dX6_isBack_35 : decode cX6_isBack 35 = .ok (.ireturn, 1) := by decide +kernel
theorem dX6_listed_0 : decode cX6_listed 0 = .ok (.aload_n 0, 1) := by decide +kernel
theorem dX6_listed_1 : decode cX6_listed 1 = .ok (.iload_n 3, 1) := by decide +kernel
theorem dX6_listed_2 : decode cX6_listed 2 = .ok (.i2l, 1) := by decide +kernel
theorem dX6_listed_3 : decode cX6_listed 3 = .ok (.lconst 0, 1) := by decide +kernel
theorem dX6_listed_4 : decode cX6_listed 4 = .ok (.iload_n 2, 1) := by decide +kernel
theorem dX6_listed_5 : decode cX6_listed 5 = .ok (.iconst 1, 1) := by decide +kernel
theorem dX6_listed_6 : decode cX6_listed 6 = .ok (.isub, 1) := by decide +kernel
theorem dX6_listed_7 : decode cX6_listed 7 = .ok (.i2l, 1) := by decide +kernel
theorem dX6_listed_8 : decode cX6_listed 8 = .ok (.invokestatic 59, 3) := by decide +kernel
theorem dX6_listed_11 : decode cX6_listed 11 = .ok (.ifCond .eq 7, 3) := by decide +kernel
theorem dX6_listed_14 : decode cX6_listed 14 = .ok (.iconst 0, 1) := by decide +kernel
theorem dX6_listed_15 : decode cX6_listed 15 = .ok (.goto 4, 3) := by decide +kernel
theorem dX6_listed_18 : decode cX6_listed 18 = .ok (.iconst 1, 1) := by decide +kernel
theorem dX6_listed_19 : decode cX6_listed 19 = .ok (.putfield 54, 3) := by decide +kernel
theorem dX6_listed_22 : decode cX6_listed 22 = .ok (.aload_n 0, 1) := by decide +kernel
theorem dX6_listed_23 : decode cX6_listed 23 = .ok (.getfield 54, 3) := by decide +kernel
theorem dX6_listed_26 : decode cX6_listed 26 = .ok (.ifCond .ne 14, 3) := by decide +kernel
theorem dX6_listed_29 : decode cX6_listed 29 = .ok (.aload_n 0, 1) := by decide +kernel
theorem dX6_listed_30 : decode cX6_listed 30 = .ok (.getfield 41, 3) := by decide +kernel
theorem dX6_listed_33 : decode cX6_listed 33 = .ok (.iload_n 1, 1) := by decide +kernel
theorem dX6_listed_34 : decode cX6_listed 34 = .ok (.iload_n 3, 1) := by decide +kernel
theorem dX6_listed_35 : decode cX6_listed 35 = .ok (.iadd, 1) := by decide +kernel
theorem dX6_listed_36 : decode cX6_listed 36 = .ok (.iaload, 1) := by decide +kernel
theorem dX6_listed_37 : decode cX6_listed 37 = .ok (.goto 4, 3) := by decide +kernel
theorem dX6_listed_40 : decode cX6_listed 40 = .ok (.iconst (-1), 1) := by decide +kernel
theorem dX6_listed_41 : decode cX6_listed 41 = .ok (.ireturn, 1) := by decide +kernel
theorem dX6_waiting_0 : decode cX6_waiting 0 = .ok (.aload_n 0, 1) := by decide +kernel
theorem dX6_waiting_1 : decode cX6_waiting 1 = .ok (.iconst 0, 1) := by decide +kernel
theorem dX6_waiting_2 : decode cX6_waiting 2 = .ok (.putfield 54, 3) := by decide +kernel
theorem dX6_waiting_5 : decode cX6_waiting 5 = .ok (.aload_n 0, 1) := by decide +kernel
theorem dX6_waiting_6 : decode cX6_waiting 6 = .ok (.getfield 41, 3) := by decide +kernel
theorem dX6_waiting_9 : decode cX6_waiting 9 = .ok (.sipush 233, 3) := by decide +kernel
theorem dX6_waiting_12 : decode cX6_waiting 12 = .ok (.iaload, 1) := by decide +kernel
theorem dX6_waiting_13 : decode cX6_waiting 13 = .ok (.ireturn, 1) := by decide +kernel
theorem dX6_waitingAt_0 : decode cX6_waitingAt 0 = .ok (.aload_n 0, 1) := by decide +kernel
theorem dX6_waitingAt_1 : decode cX6_waitingAt 1 = .ok (.sipush 142, 3) := by decide +kernel
theorem dX6_waitingAt_4 : decode cX6_waitingAt 4 = .ok (.aload_n 0, 1) := by decide +kernel
theorem dX6_waitingAt_5 : decode cX6_waitingAt 5 = .ok (.getfield 41, 3) := by decide +kernel
theorem dX6_waitingAt_8 : decode cX6_waitingAt 8 = .ok (.sipush 233, 3) := by decide +kernel
theorem dX6_waitingAt_11 : decode cX6_waitingAt 11 = .ok (.iaload, 1) := by decide +kernel
theorem dX6_waitingAt_12 : decode cX6_waitingAt 12 = .ok (.iload_n 1, 1) := by decide +kernel
theorem dX6_waitingAt_13 : decode cX6_waitingAt 13 = .ok (.invokevirtual 144, 3) := by decide +kernel
theorem dX6_waitingAt_16 : decode cX6_waitingAt 16 = .ok (.ireturn, 1) := by decide +kernel
theorem dX6_looped_0 : decode cX6_looped 0 = .ok (.aload_n 0, 1) := by decide +kernel
theorem dX6_looped_1 : decode cX6_looped 1 = .ok (.iconst 0, 1) := by decide +kernel
theorem dX6_looped_2 : decode cX6_looped 2 = .ok (.putfield 54, 3) := by decide +kernel
theorem dX6_looped_5 : decode cX6_looped 5 = .ok (.aload_n 0, 1) := by decide +kernel
theorem dX6_looped_6 : decode cX6_looped 6 = .ok (.getfield 41, 3) := by decide +kernel
theorem dX6_looped_9 : decode cX6_looped 9 = .ok (.sipush 234, 3) := by decide +kernel
theorem dX6_looped_12 : decode cX6_looped 12 = .ok (.iaload, 1) := by decide +kernel
theorem dX6_looped_13 : decode cX6_looped 13 = .ok (.ireturn, 1) := by decide +kernel
theorem dX6_loopedAt_0 : decode cX6_loopedAt 0 = .ok (.aload_n 0, 1) := by decide +kernel
theorem dX6_loopedAt_1 : decode cX6_loopedAt 1 = .ok (.sipush 172, 3) := by decide +kernel
theorem dX6_loopedAt_4 : decode cX6_loopedAt 4 = .ok (.aload_n 0, 1) := by decide +kernel
theorem dX6_loopedAt_5 : decode cX6_loopedAt 5 = .ok (.getfield 41, 3) := by decide +kernel
theorem dX6_loopedAt_8 : decode cX6_loopedAt 8 = .ok (.sipush 234, 3) := by decide +kernel
theorem dX6_loopedAt_11 : decode cX6_loopedAt 11 = .ok (.iaload, 1) := by decide +kernel
theorem dX6_loopedAt_12 : decode cX6_loopedAt 12 = .ok (.iload_n 1, 1) := by decide +kernel
theorem dX6_loopedAt_13 : decode cX6_loopedAt 13 = .ok (.invokevirtual 144, 3) := by decide +kernel
theorem dX6_loopedAt_16 : decode cX6_loopedAt 16 = .ok (.ireturn, 1) := by decide +kernel
theorem dX6_left_0 : decode cX6_left 0 = .ok (.aload_n 0, 1) := by decide +kernel
theorem dX6_left_1 : decode cX6_left 1 = .ok (.iconst 0, 1) := by decide +kernel
theorem dX6_left_2 : decode cX6_left 2 = .ok (.putfield 54, 3) := by decide +kernel
theorem dX6_left_5 : decode cX6_left 5 = .ok (.aload_n 0, 1) := by decide +kernel
theorem dX6_left_6 : decode cX6_left 6 = .ok (.getfield 41, 3) := by decide +kernel
theorem dX6_left_9 : decode cX6_left 9 = .ok (.sipush 235, 3) := by decide +kernel
theorem dX6_left_12 : decode cX6_left 12 = .ok (.iaload, 1) := by decide +kernel
theorem dX6_left_13 : decode cX6_left 13 = .ok (.ireturn, 1) := by decide +kernel
theorem dX6_leftAt_0 : decode cX6_leftAt 0 = .ok (.aload_n 0, 1) := by decide +kernel
theorem dX6_leftAt_1 : decode cX6_leftAt 1 = .ok (.sipush 202, 3) := by decide +kernel
theorem dX6_leftAt_4 : decode cX6_leftAt 4 = .ok (.aload_n 0, 1) := by decide +kernel
theorem dX6_leftAt_5 : decode cX6_leftAt 5 = .ok (.getfield 41, 3) := by decide +kernel
theorem dX6_leftAt_8 : decode cX6_leftAt 8 = .ok (.sipush 235, 3) := by decide +kernel
theorem dX6_leftAt_11 : decode cX6_leftAt 11 = .ok (.iaload, 1) := by decide +kernel
theorem dX6_leftAt_12 : decode cX6_leftAt 12 = .ok (.iload_n 1, 1) := by decide +kernel
theorem dX6_leftAt_13 : decode cX6_leftAt 13 = .ok (.invokevirtual 144, 3) := by decide +kernel
theorem dX6_leftAt_16 : decode cX6_leftAt 16 = .ok (.ireturn, 1) := by decide +kernel
theorem dX6_leftIn_0 : decode cX6_leftIn 0 = .ok (.aload_n 0, 1) := by decide +kernel
theorem dX6_leftIn_1 : decode cX6_leftIn 1 = .ok (.aload_n 0, 1) := by decide +kernel
theorem dX6_leftIn_2 : decode cX6_leftIn 2 = .ok (.iload_n 1, 1) := by decide +kernel
theorem dX6_leftIn_3 : decode cX6_leftIn 3 = .ok (.invokevirtual 87, 3) := by decide +kernel
theorem dX6_leftIn_6 : decode cX6_leftIn 6 = .ok (.ifCond .ne 7, 3) := by decide +kernel
theorem dX6_leftIn_9 : decode cX6_leftIn 9 = .ok (.iconst 1, 1) := by decide +kernel
theorem dX6_leftIn_10 : decode cX6_leftIn 10 = .ok (.goto 22, 3) := by decide +kernel
theorem dX6_leftIn_13 : decode cX6_leftIn 13 = .ok (.aload_n 0, 1) := by decide +kernel
theorem dX6_leftIn_14 : decode cX6_leftIn 14 = .ok (.getfield 41, 3) := by decide +kernel
theorem dX6_leftIn_17 : decode cX6_leftIn 17 = .ok (.bipush 82, 2) := by decide +kernel
theorem dX6_leftIn_19 : decode cX6_leftIn 19 = .ok (.iload_n 1, 1) := by decide +kernel
theorem dX6_leftIn_20 : decode cX6_leftIn 20 = .ok (.iadd, 1) := by decide +kernel
theorem dX6_leftIn_21 : decode cX6_leftIn 21 = .ok (.iaload, 1) := by decide +kernel
theorem dX6_leftIn_22 : decode cX6_leftIn 22 = .ok (.bipush 100, 2) := by decide +kernel
theorem dX6_leftIn_24 : decode cX6_leftIn 24 = .ok (.if_icmp .eq 7, 3) := by decide +kernel
theorem dX6_leftIn_27 : decode cX6_leftIn 27 = .ok (.iconst 2, 1) := by decide +kernel
theorem dX6_leftIn_28 : decode cX6_leftIn 28 = .ok (.goto 4, 3) := by decide +kernel
theorem dX6_leftIn_31 : decode cX6_leftIn 31 = .ok (.iconst 0, 1) := by decide +kernel
theorem dX6_leftIn_32 : decode cX6_leftIn 32 = .ok (.putfield 54, 3) := by decide +kernel
theorem dX6_leftIn_35 : decode cX6_leftIn 35 = .ok (.aload_n 0, 1) := by decide +kernel
theorem dX6_leftIn_36 : decode cX6_leftIn 36 = .ok (.getfield 54, 3) := by decide +kernel
theorem dX6_leftIn_39 : decode cX6_leftIn 39 = .ok (.ifCond .ne 12, 3) := by decide +kernel
theorem dX6_leftIn_42 : decode cX6_leftIn 42 = .ok (.aload_n 0, 1) := by decide +kernel
theorem dX6_leftIn_43 : decode cX6_leftIn 43 = .ok (.getfield 35, 3) := by decide +kernel
theorem dX6_leftIn_46 : decode cX6_leftIn 46 = .ok (.iload_n 1, 1) := by decide +kernel
theorem dX6_leftIn_47 : decode cX6_leftIn 47 = .ok (.iaload, 1) := by decide +kernel
theorem dX6_leftIn_48 : decode cX6_leftIn 48 = .ok (.goto 4, 3) := by decide +kernel
theorem dX6_leftIn_51 : decode cX6_leftIn 51 = .ok (.iconst (-1), 1) := by decide +kernel
theorem dX6_leftIn_52 : decode cX6_leftIn 52 = .ok (.ireturn, 1) := by decide +kernel
theorem dX6_faults_0 : decode cX6_faults 0 = .ok (.aload_n 0, 1) := by decide +kernel
theorem dX6_faults_1 : decode cX6_faults 1 = .ok (.iload_n 1, 1) := by decide +kernel
theorem dX6_faults_2 : decode cX6_faults 2 = .ok (.invokevirtual 138, 3) := by decide +kernel
theorem dX6_faults_5 : decode cX6_faults 5 = .ok (.ifCond .eq 18, 3) := by decide +kernel
theorem dX6_faults_8 : decode cX6_faults 8 = .ok (.aload_n 0, 1) := by decide +kernel
theorem dX6_faults_9 : decode cX6_faults 9 = .ok (.getfield 41, 3) := by decide +kernel
theorem dX6_faults_12 : decode cX6_faults 12 = .ok (.bipush 112, 2) := by decide +kernel
theorem dX6_faults_14 : decode cX6_faults 14 = .ok (.iload_n 1, 1) := by decide +kernel
theorem dX6_faults_15 : decode cX6_faults 15 = .ok (.iadd, 1) := by decide +kernel
theorem dX6_faults_16 : decode cX6_faults 16 = .ok (.iaload, 1) := by decide +kernel
theorem dX6_faults_17 : decode cX6_faults 17 = .ok (.invokestatic 97, 3) := by decide +kernel
theorem dX6_faults_20 : decode cX6_faults 20 = .ok (.goto 4, 3) := by decide +kernel
theorem dX6_faults_23 : decode cX6_faults 23 = .ok (.iconst (-1), 1) := by decide +kernel
theorem dX6_faults_24 : decode cX6_faults 24 = .ok (.ireturn, 1) := by decide +kernel
theorem dX6_hasFault_0 : decode cX6_hasFault 0 = .ok (.aload_n 0, 1) := by decide +kernel
theorem dX6_hasFault_1 : decode cX6_hasFault 1 = .ok (.aload_n 0, 1) := by decide +kernel
theorem dX6_hasFault_2 : decode cX6_hasFault 2 = .ok (.iload_n 1, 1) := by decide +kernel
theorem dX6_hasFault_3 : decode cX6_hasFault 3 = .ok (.invokevirtual 87, 3) := by decide +kernel
theorem dX6_hasFault_6 : decode cX6_hasFault 6 = .ok (.ifCond .eq 15, 3) := by decide +kernel
theorem dX6_hasFault_9 : decode cX6_hasFault 9 = .ok (.aload_n 0, 1) := by decide +kernel
theorem dX6_hasFault_10 : decode cX6_hasFault 10 = .ok (.iload_n 2, 1) := by decide +kernel
theorem dX6_hasFault_11 : decode cX6_hasFault 11 = .ok (.invokevirtual 94, 3) := by decide +kernel
theorem dX6_hasFault_14 : decode cX6_hasFault 14 = .ok (.ifCond .eq 7, 3) := by decide +kernel
theorem dX6_hasFault_17 : decode cX6_hasFault 17 = .ok (.iconst 0, 1) := by decide +kernel
theorem dX6_hasFault_18 : decode cX6_hasFault 18 = .ok (.goto 4, 3) := by decide +kernel
theorem dX6_hasFault_21 : decode cX6_hasFault 21 = .ok (.iconst 1, 1) := by decide +kernel
theorem dX6_hasFault_22 : decode cX6_hasFault 22 = .ok (.putfield 54, 3) := by decide +kernel
theorem dX6_hasFault_25 : decode cX6_hasFault 25 = .ok (.aload_n 0, 1) := by decide +kernel
theorem dX6_hasFault_26 : decode cX6_hasFault 26 = .ok (.getfield 54, 3) := by decide +kernel
theorem dX6_hasFault_29 : decode cX6_hasFault 29 = .ok (.ifCond .ne 24, 3) := by decide +kernel
theorem dX6_hasFault_32 : decode cX6_hasFault 32 = .ok (.aload_n 0, 1) := by decide +kernel
theorem dX6_hasFault_33 : decode cX6_hasFault 33 = .ok (.getfield 41, 3) := by decide +kernel
theorem dX6_hasFault_36 : decode cX6_hasFault 36 = .ok (.bipush 112, 2) := by decide +kernel
theorem dX6_hasFault_38 : decode cX6_hasFault 38 = .ok (.iload_n 1, 1) := by decide +kernel
theorem dX6_hasFault_39 : decode cX6_hasFault 39 = .ok (.iadd, 1) := by decide +kernel
theorem dX6_hasFault_40 : decode cX6_hasFault 40 = .ok (.iaload, 1) := by decide +kernel
theorem dX6_hasFault_41 : decode cX6_hasFault 41 = .ok (.iload_n 2, 1) := by decide +kernel
theorem dX6_hasFault_42 : decode cX6_hasFault 42 = .ok (.ishr, 1) := by decide +kernel
theorem dX6_hasFault_43 : decode cX6_hasFault 43 = .ok (.iconst 1, 1) := by decide +kernel
theorem dX6_hasFault_44 : decode cX6_hasFault 44 = .ok (.iand, 1) := by decide +kernel
theorem dX6_hasFault_45 : decode cX6_hasFault 45 = .ok (.iconst 1, 1) := by decide +kernel
theorem dX6_hasFault_46 : decode cX6_hasFault 46 = .ok (.if_icmp .ne 7, 3) := by decide +kernel
theorem dX6_hasFault_49 : decode cX6_hasFault 49 = .ok (.iconst 1, 1) := by decide +kernel
theorem dX6_hasFault_50 : decode cX6_hasFault 50 = .ok (.goto 4, 3) := by decide +kernel
theorem dX6_hasFault_53 : decode cX6_hasFault 53 = .ok (.iconst 0, 1) := by decide +kernel
theorem dX6_hasFault_54 : decode cX6_hasFault 54 = .ok (.ireturn, 1) := by decide +kernel
theorem dX6_lacks_0 : decode cX6_lacks 0 = .ok (.aload_n 0, 1) := by decide +kernel
theorem dX6_lacks_1 : decode cX6_lacks 1 = .ok (.aload_n 0, 1) := by decide +kernel
theorem dX6_lacks_2 : decode cX6_lacks 2 = .ok (.iload_n 1, 1) := by decide +kernel
theorem dX6_lacks_3 : decode cX6_lacks 3 = .ok (.invokevirtual 94, 3) := by decide +kernel
theorem dX6_lacks_6 : decode cX6_lacks 6 = .ok (.ifCond .eq 7, 3) := by decide +kernel
theorem dX6_lacks_9 : decode cX6_lacks 9 = .ok (.iconst 0, 1) := by decide +kernel
theorem dX6_lacks_10 : decode cX6_lacks 10 = .ok (.goto 4, 3) := by decide +kernel
theorem dX6_lacks_13 : decode cX6_lacks 13 = .ok (.iconst 1, 1) := by decide +kernel
theorem dX6_lacks_14 : decode cX6_lacks 14 = .ok (.putfield 54, 3) := by decide +kernel
theorem dX6_lacks_17 : decode cX6_lacks 17 = .ok (.aload_n 0, 1) := by decide +kernel
theorem dX6_lacks_18 : decode cX6_lacks 18 = .ok (.getfield 54, 3) := by decide +kernel
theorem dX6_lacks_21 : decode cX6_lacks 21 = .ok (.ifCond .ne 12, 3) := by decide +kernel
theorem dX6_lacks_24 : decode cX6_lacks 24 = .ok (.aload_n 0, 1) := by decide +kernel
theorem dX6_lacks_25 : decode cX6_lacks 25 = .ok (.getfield 22, 3) := by decide +kernel
theorem dX6_lacks_28 : decode cX6_lacks 28 = .ok (.iload_n 1, 1) := by decide +kernel
theorem dX6_lacks_29 : decode cX6_lacks 29 = .ok (.iaload, 1) := by decide +kernel
theorem dX6_lacks_30 : decode cX6_lacks 30 = .ok (.goto 4, 3) := by decide +kernel
theorem dX6_lacks_33 : decode cX6_lacks 33 = .ok (.iconst (-1), 1) := by decide +kernel
theorem dX6_lacks_34 : decode cX6_lacks 34 = .ok (.ireturn, 1) := by decide +kernel
theorem dX6_lacksOf_0 : decode cX6_lacksOf 0 = .ok (.aload_n 0, 1) := by decide +kernel
theorem dX6_lacksOf_1 : decode cX6_lacksOf 1 = .ok (.iload_n 1, 1) := by decide +kernel
theorem dX6_lacksOf_2 : decode cX6_lacksOf 2 = .ok (.invokestatic 74, 3) := by decide +kernel
theorem dX6_lacksOf_5 : decode cX6_lacksOf 5 = .ok (.ifCond .eq 7, 3) := by decide +kernel
theorem dX6_lacksOf_8 : decode cX6_lacksOf 8 = .ok (.iconst 0, 1) := by decide +kernel
theorem dX6_lacksOf_9 : decode cX6_lacksOf 9 = .ok (.goto 4, 3) := by decide +kernel
theorem dX6_lacksOf_12 : decode cX6_lacksOf 12 = .ok (.iconst 1, 1) := by decide +kernel
theorem dX6_lacksOf_13 : decode cX6_lacksOf 13 = .ok (.putfield 54, 3) := by decide +kernel
theorem dX6_lacksOf_16 : decode cX6_lacksOf 16 = .ok (.aload_n 0, 1) := by decide +kernel
theorem dX6_lacksOf_17 : decode cX6_lacksOf 17 = .ok (.getfield 54, 3) := by decide +kernel
theorem dX6_lacksOf_20 : decode cX6_lacksOf 20 = .ok (.ifCond .ne 7, 3) := by decide +kernel
theorem dX6_lacksOf_23 : decode cX6_lacksOf 23 = .ok (.iconst 0, 1) := by decide +kernel
theorem dX6_lacksOf_24 : decode cX6_lacksOf 24 = .ok (.goto 4, 3) := by decide +kernel
theorem dX6_lacksOf_27 : decode cX6_lacksOf 27 = .ok (.iconst (-1), 1) := by decide +kernel
theorem dX6_lacksOf_28 : decode cX6_lacksOf 28 = .ok (.istore_n 2, 1) := by decide +kernel
theorem dX6_lacksOf_29 : decode cX6_lacksOf 29 = .ok (.iconst 0, 1) := by decide +kernel
theorem dX6_lacksOf_30 : decode cX6_lacksOf 30 = .ok (.istore_n 3, 1) := by decide +kernel
theorem dX6_lacksOf_31 : decode cX6_lacksOf 31 = .ok (.iload_n 3, 1) := by decide +kernel
theorem dX6_lacksOf_32 : decode cX6_lacksOf 32 = .ok (.aload_n 0, 1) := by decide +kernel
theorem dX6_lacksOf_33 : decode cX6_lacksOf 33 = .ok (.getfield 71, 3) := by decide +kernel
theorem dX6_lacksOf_36 : decode cX6_lacksOf 36 = .ok (.if_icmp .ge 39, 3) := by decide +kernel
theorem dX6_lacksOf_39 : decode cX6_lacksOf 39 = .ok (.aload_n 0, 1) := by decide +kernel
theorem dX6_lacksOf_40 : decode cX6_lacksOf 40 = .ok (.getfield 54, 3) := by decide +kernel
theorem dX6_lacksOf_43 : decode cX6_lacksOf 43 = .ok (.ifCond .ne 32, 3) := by decide +kernel
theorem dX6_lacksOf_46 : decode cX6_lacksOf 46 = .ok (.iload_n 2, 1) := by decide +kernel
theorem dX6_lacksOf_47 : decode cX6_lacksOf 47 = .ok (.aload_n 0, 1) := by decide +kernel
theorem dX6_lacksOf_48 : decode cX6_lacksOf 48 = .ok (.getfield 13, 3) := by decide +kernel
theorem dX6_lacksOf_51 : decode cX6_lacksOf 51 = .ok (.iload_n 3, 1) := by decide +kernel
theorem dX6_lacksOf_52 : decode cX6_lacksOf 52 = .ok (.iaload, 1) := by decide +kernel
theorem dX6_lacksOf_53 : decode cX6_lacksOf 53 = .ok (.iload_n 1, 1) := by decide +kernel
theorem dX6_lacksOf_54 : decode cX6_lacksOf 54 = .ok (.if_icmp .ne 12, 3) := by decide +kernel
theorem dX6_lacksOf_57 : decode cX6_lacksOf 57 = .ok (.aload_n 0, 1) := by decide +kernel
theorem dX6_lacksOf_58 : decode cX6_lacksOf 58 = .ok (.getfield 22, 3) := by decide +kernel
theorem dX6_lacksOf_61 : decode cX6_lacksOf 61 = .ok (.iload_n 3, 1) := by decide +kernel
theorem dX6_lacksOf_62 : decode cX6_lacksOf 62 = .ok (.iaload, 1) := by decide +kernel
theorem dX6_lacksOf_63 : decode cX6_lacksOf 63 = .ok (.goto 4, 3) := by decide +kernel
theorem dX6_lacksOf_66 : decode cX6_lacksOf 66 = .ok (.iconst 0, 1) := by decide +kernel
theorem dX6_lacksOf_67 : decode cX6_lacksOf 67 = .ok (.iadd, 1) := by decide +kernel
theorem dX6_lacksOf_68 : decode cX6_lacksOf 68 = .ok (.istore_n 2, 1) := by decide +kernel
theorem dX6_lacksOf_69 : decode cX6_lacksOf 69 = .ok (.iinc 3 1, 3) := by decide +kernel
theorem dX6_lacksOf_72 : decode cX6_lacksOf 72 = .ok (.goto (-41), 3) := by decide +kernel
theorem dX6_lacksOf_75 : decode cX6_lacksOf 75 = .ok (.iload_n 2, 1) := by decide +kernel
theorem dX6_lacksOf_76 : decode cX6_lacksOf 76 = .ok (.ireturn, 1) := by decide +kernel
theorem dX6_onShelf_0 : decode cX6_onShelf 0 = .ok (.aload_n 0, 1) := by decide +kernel
theorem dX6_onShelf_1 : decode cX6_onShelf 1 = .ok (.aload_n 0, 1) := by decide +kernel
theorem dX6_onShelf_2 : decode cX6_onShelf 2 = .ok (.iload_n 1, 1) := by decide +kernel
theorem dX6_onShelf_3 : decode cX6_onShelf 3 = .ok (.invokevirtual 94, 3) := by decide +kernel
theorem dX6_onShelf_6 : decode cX6_onShelf 6 = .ok (.ifCond .eq 7, 3) := by decide +kernel
theorem dX6_onShelf_9 : decode cX6_onShelf 9 = .ok (.iconst 0, 1) := by decide +kernel
theorem dX6_onShelf_10 : decode cX6_onShelf 10 = .ok (.goto 4, 3) := by decide +kernel
theorem dX6_onShelf_13 : decode cX6_onShelf 13 = .ok (.iconst 1, 1) := by decide +kernel
theorem dX6_onShelf_14 : decode cX6_onShelf 14 = .ok (.putfield 54, 3) := by decide +kernel
theorem dX6_onShelf_17 : decode cX6_onShelf 17 = .ok (.aload_n 0, 1) := by decide +kernel
theorem dX6_onShelf_18 : decode cX6_onShelf 18 = .ok (.getfield 54, 3) := by decide +kernel
theorem dX6_onShelf_21 : decode cX6_onShelf 21 = .ok (.ifCond .ne 15, 3) := by decide +kernel
theorem dX6_onShelf_24 : decode cX6_onShelf 24 = .ok (.aload_n 0, 1) := by decide +kernel
theorem dX6_onShelf_25 : decode cX6_onShelf 25 = .ok (.getfield 41, 3) := by decide +kernel
theorem dX6_onShelf_28 : decode cX6_onShelf 28 = .ok (.bipush 6, 2) := by decide +kernel
theorem dX6_onShelf_30 : decode cX6_onShelf 30 = .ok (.iload_n 1, 1) := by decide +kernel
theorem dX6_onShelf_31 : decode cX6_onShelf 31 = .ok (.iadd, 1) := by decide +kernel
theorem dX6_onShelf_32 : decode cX6_onShelf 32 = .ok (.iaload, 1) := by decide +kernel
theorem dX6_onShelf_33 : decode cX6_onShelf 33 = .ok (.goto 4, 3) := by decide +kernel
theorem dX6_onShelf_36 : decode cX6_onShelf 36 = .ok (.iconst (-1), 1) := by decide +kernel
theorem dX6_onShelf_37 : decode cX6_onShelf 37 = .ok (.ireturn, 1) := by decide +kernel
theorem dX6_inStore_0 : decode cX6_inStore 0 = .ok (.aload_n 0, 1) := by decide +kernel
theorem dX6_inStore_1 : decode cX6_inStore 1 = .ok (.iload_n 1, 1) := by decide +kernel
theorem dX6_inStore_2 : decode cX6_inStore 2 = .ok (.invokestatic 74, 3) := by decide +kernel
theorem dX6_inStore_5 : decode cX6_inStore 5 = .ok (.ifCond .eq 7, 3) := by decide +kernel
theorem dX6_inStore_8 : decode cX6_inStore 8 = .ok (.iconst 0, 1) := by decide +kernel
theorem dX6_inStore_9 : decode cX6_inStore 9 = .ok (.goto 4, 3) := by decide +kernel
theorem dX6_inStore_12 : decode cX6_inStore 12 = .ok (.iconst 1, 1) := by decide +kernel
theorem dX6_inStore_13 : decode cX6_inStore 13 = .ok (.putfield 54, 3) := by decide +kernel
theorem dX6_inStore_16 : decode cX6_inStore 16 = .ok (.aload_n 0, 1) := by decide +kernel
theorem dX6_inStore_17 : decode cX6_inStore 17 = .ok (.getfield 54, 3) := by decide +kernel
theorem dX6_inStore_20 : decode cX6_inStore 20 = .ok (.ifCond .ne 12, 3) := by decide +kernel
theorem dX6_inStore_23 : decode cX6_inStore 23 = .ok (.aload_n 0, 1) := by decide +kernel
theorem dX6_inStore_24 : decode cX6_inStore 24 = .ok (.getfield 41, 3) := by decide +kernel
theorem dX6_inStore_27 : decode cX6_inStore 27 = .ok (.iload_n 1, 1) := by decide +kernel
theorem dX6_inStore_28 : decode cX6_inStore 28 = .ok (.iaload, 1) := by decide +kernel
theorem dX6_inStore_29 : decode cX6_inStore 29 = .ok (.goto 4, 3) := by decide +kernel
theorem dX6_inStore_32 : decode cX6_inStore 32 = .ok (.iconst (-1), 1) := by decide +kernel
theorem dX6_inStore_33 : decode cX6_inStore 33 = .ok (.ireturn, 1) := by decide +kernel
theorem dX6_nextRound_0 : decode cX6_nextRound 0 = .ok (.aload_n 0, 1) := by decide +kernel
theorem dX6_nextRound_1 : decode cX6_nextRound 1 = .ok (.iconst 0, 1) := by decide +kernel
theorem dX6_nextRound_2 : decode cX6_nextRound 2 = .ok (.putfield 54, 3) := by decide +kernel
theorem dX6_nextRound_5 : decode cX6_nextRound 5 = .ok (.aload_n 0, 1) := by decide +kernel
theorem dX6_nextRound_6 : decode cX6_nextRound 6 = .ok (.getfield 25, 3) := by decide +kernel
theorem dX6_nextRound_9 : decode cX6_nextRound 9 = .ok (.aload_n 0, 1) := by decide +kernel
theorem dX6_nextRound_10 : decode cX6_nextRound 10 = .ok (.getfield 41, 3) := by decide +kernel
theorem dX6_nextRound_13 : decode cX6_nextRound 13 = .ok (.sipush 232, 3) := by decide +kernel
theorem dX6_nextRound_16 : decode cX6_nextRound 16 = .ok (.iaload, 1) := by decide +kernel
theorem dX6_nextRound_17 : decode cX6_nextRound 17 = .ok (.aload_n 0, 1) := by decide +kernel
theorem dX6_nextRound_18 : decode cX6_nextRound 18 = .ok (.getfield 25, 3) := by decide +kernel
theorem dX6_nextRound_21 : decode cX6_nextRound 21 = .ok (.irem, 1) := by decide +kernel
theorem dX6_nextRound_22 : decode cX6_nextRound 22 = .ok (.isub, 1) := by decide +kernel
theorem dX6_nextRound_23 : decode cX6_nextRound 23 = .ok (.ireturn, 1) := by decide +kernel
theorem dX6_keeps_0 : decode cX6_keeps 0 = .ok (.iconst 0, 1) := by decide +kernel
theorem dX6_keeps_1 : decode cX6_keeps 1 = .ok (.istore_n 1, 1) := by decide +kernel
theorem dX6_keeps_2 : decode cX6_keeps 2 = .ok (.iload_n 1, 1) := by decide +kernel
theorem dX6_keeps_3 : decode cX6_keeps 3 = .ok (.aload_n 0, 1) := by decide +kernel
theorem dX6_keeps_4 : decode cX6_keeps 4 = .ok (.getfield 44, 3) := by decide +kernel
theorem dX6_keeps_7 : decode cX6_keeps 7 = .ok (.arraylength, 1) := by decide +kernel
theorem dX6_keeps_8 : decode cX6_keeps 8 = .ok (.if_icmp .ge 21, 3) := by decide +kernel
theorem dX6_keeps_11 : decode cX6_keeps 11 = .ok (.aload_n 0, 1) := by decide +kernel
theorem dX6_keeps_12 : decode cX6_keeps 12 = .ok (.getfield 44, 3) := by decide +kernel
theorem dX6_keeps_15 : decode cX6_keeps 15 = .ok (.iload_n 1, 1) := by decide +kernel
theorem dX6_keeps_16 : decode cX6_keeps 16 = .ok (.aload_n 0, 1) := by decide +kernel
theorem dX6_keeps_17 : decode cX6_keeps 17 = .ok (.getfield 41, 3) := by decide +kernel
theorem dX6_keeps_20 : decode cX6_keeps 20 = .ok (.iload_n 1, 1) := by decide +kernel
theorem dX6_keeps_21 : decode cX6_keeps 21 = .ok (.iaload, 1) := by decide +kernel
theorem dX6_keeps_22 : decode cX6_keeps 22 = .ok (.iastore, 1) := by decide +kernel
theorem dX6_keeps_23 : decode cX6_keeps 23 = .ok (.iinc 1 1, 3) := by decide +kernel
theorem dX6_keeps_26 : decode cX6_keeps 26 = .ok (.goto (-24), 3) := by decide +kernel
theorem dX6_keeps_29 : decode cX6_keeps 29 = .ok (.aload_n 0, 1) := by decide +kernel
theorem dX6_keeps_30 : decode cX6_keeps 30 = .ok (.iconst 1, 1) := by decide +kernel
theorem dX6_keeps_31 : decode cX6_keeps 31 = .ok (.putfield 100, 3) := by decide +kernel
theorem dX6_keeps_34 : decode cX6_keeps 34 = .ok (.return_, 1) := by decide +kernel
theorem dX6_putsBack_0 : decode cX6_putsBack 0 = .ok (.iconst 0, 1) := by decide +kernel
theorem dX6_putsBack_1 : decode cX6_putsBack 1 = .ok (.istore_n 1, 1) := by decide +kernel
theorem dX6_putsBack_2 : decode cX6_putsBack 2 = .ok (.iload_n 1, 1) := by decide +kernel
theorem dX6_putsBack_3 : decode cX6_putsBack 3 = .ok (.aload_n 0, 1) := by decide +kernel
theorem dX6_putsBack_4 : decode cX6_putsBack 4 = .ok (.getfield 44, 3) := by decide +kernel
theorem dX6_putsBack_7 : decode cX6_putsBack 7 = .ok (.arraylength, 1) := by decide +kernel
theorem dX6_putsBack_8 : decode cX6_putsBack 8 = .ok (.if_icmp .ge 21, 3) := by decide +kernel
theorem dX6_putsBack_11 : decode cX6_putsBack 11 = .ok (.aload_n 0, 1) := by decide +kernel
theorem dX6_putsBack_12 : decode cX6_putsBack 12 = .ok (.getfield 41, 3) := by decide +kernel
theorem dX6_putsBack_15 : decode cX6_putsBack 15 = .ok (.iload_n 1, 1) := by decide +kernel
theorem dX6_putsBack_16 : decode cX6_putsBack 16 = .ok (.aload_n 0, 1) := by decide +kernel
theorem dX6_putsBack_17 : decode cX6_putsBack 17 = .ok (.getfield 44, 3) := by decide +kernel
theorem dX6_putsBack_20 : decode cX6_putsBack 20 = .ok (.iload_n 1, 1) := by decide +kernel
theorem dX6_putsBack_21 : decode cX6_putsBack 21 = .ok (.iaload, 1) := by decide +kernel
theorem dX6_putsBack_22 : decode cX6_putsBack 22 = .ok (.iastore, 1) := by decide +kernel
theorem dX6_putsBack_23 : decode cX6_putsBack 23 = .ok (.iinc 1 1, 3) := by decide +kernel
theorem dX6_putsBack_26 : decode cX6_putsBack 26 = .ok (.goto (-24), 3) := by decide +kernel
theorem dX6_putsBack_29 : decode cX6_putsBack 29 = .ok (.aload_n 0, 1) := by decide +kernel
theorem dX6_putsBack_30 : decode cX6_putsBack 30 = .ok (.iconst 0, 1) := by decide +kernel
theorem dX6_putsBack_31 : decode cX6_putsBack 31 = .ok (.putfield 100, 3) := by decide +kernel
theorem dX6_putsBack_34 : decode cX6_putsBack 34 = .ok (.return_, 1) := by decide +kernel
theorem dX6_leavesIn_0 : decode cX6_leavesIn 0 = .ok (.aload_n 0, 1) := by decide +kernel
theorem dX6_leavesIn_1 : decode cX6_leavesIn 1 = .ok (.aload_n 0, 1) := by decide +kernel
theorem dX6_leavesIn_2 : decode cX6_leavesIn 2 = .ok (.iload_n 1, 1) := by decide +kernel
theorem dX6_leavesIn_3 : decode cX6_leavesIn 3 = .ok (.invokevirtual 87, 3) := by decide +kernel
theorem dX6_leavesIn_6 : decode cX6_leavesIn 6 = .ok (.ifCond .ne 7, 3) := by decide +kernel
theorem dX6_leavesIn_9 : decode cX6_leavesIn 9 = .ok (.iconst 1, 1) := by decide +kernel
theorem dX6_leavesIn_10 : decode cX6_leavesIn 10 = .ok (.goto 22, 3) := by decide +kernel
theorem dX6_leavesIn_13 : decode cX6_leavesIn 13 = .ok (.aload_n 0, 1) := by decide +kernel
theorem dX6_leavesIn_14 : decode cX6_leavesIn 14 = .ok (.getfield 41, 3) := by decide +kernel
theorem dX6_leavesIn_17 : decode cX6_leavesIn 17 = .ok (.bipush 82, 2) := by decide +kernel
theorem dX6_leavesIn_19 : decode cX6_leavesIn 19 = .ok (.iload_n 1, 1) := by decide +kernel
theorem dX6_leavesIn_20 : decode cX6_leavesIn 20 = .ok (.iadd, 1) := by decide +kernel
theorem dX6_leavesIn_21 : decode cX6_leavesIn 21 = .ok (.iaload, 1) := by decide +kernel
theorem dX6_leavesIn_22 : decode cX6_leavesIn 22 = .ok (.bipush 100, 2) := by decide +kernel
theorem dX6_leavesIn_24 : decode cX6_leavesIn 24 = .ok (.if_icmp .ne 7, 3) := by decide +kernel
theorem dX6_leavesIn_27 : decode cX6_leavesIn 27 = .ok (.iconst 2, 1) := by decide +kernel
theorem dX6_leavesIn_28 : decode cX6_leavesIn 28 = .ok (.goto 4, 3) := by decide +kernel
theorem dX6_leavesIn_31 : decode cX6_leavesIn 31 = .ok (.iconst 0, 1) := by decide +kernel
theorem dX6_leavesIn_32 : decode cX6_leavesIn 32 = .ok (.putfield 54, 3) := by decide +kernel
theorem dX6_leavesIn_35 : decode cX6_leavesIn 35 = .ok (.aload_n 0, 1) := by decide +kernel
theorem dX6_leavesIn_36 : decode cX6_leavesIn 36 = .ok (.getfield 54, 3) := by decide +kernel
theorem dX6_leavesIn_39 : decode cX6_leavesIn 39 = .ok (.ifCond .le 5, 3) := by decide +kernel
theorem dX6_leavesIn_42 : decode cX6_leavesIn 42 = .ok (.iconst (-1), 1) := by decide +kernel
theorem dX6_leavesIn_43 : decode cX6_leavesIn 43 = .ok (.ireturn, 1) := by decide +kernel
theorem dX6_leavesIn_44 : decode cX6_leavesIn 44 = .ok (.aload_n 0, 1) := by decide +kernel
theorem dX6_leavesIn_45 : decode cX6_leavesIn 45 = .ok (.invokevirtual 148, 3) := by decide +kernel
theorem dX6_leavesIn_48 : decode cX6_leavesIn 48 = .ok (.iconst 0, 1) := by decide +kernel
theorem dX6_leavesIn_49 : decode cX6_leavesIn 49 = .ok (.istore_n 2, 1) := by decide +kernel
theorem dX6_leavesIn_50 : decode cX6_leavesIn 50 = .ok (.iload_n 2, 1) := by decide +kernel
theorem dX6_leavesIn_51 : decode cX6_leavesIn 51 = .ok (.sipush 300, 3) := by decide +kernel
theorem dX6_leavesIn_54 : decode cX6_leavesIn 54 = .ok (.if_icmp .ge 27, 3) := by decide +kernel
theorem dX6_leavesIn_57 : decode cX6_leavesIn 57 = .ok (.aload_n 0, 1) := by decide +kernel
theorem dX6_leavesIn_58 : decode cX6_leavesIn 58 = .ok (.getfield 41, 3) := by decide +kernel
theorem dX6_leavesIn_61 : decode cX6_leavesIn 61 = .ok (.bipush 82, 2) := by decide +kernel
theorem dX6_leavesIn_63 : decode cX6_leavesIn 63 = .ok (.iload_n 1, 1) := by decide +kernel
theorem dX6_leavesIn_64 : decode cX6_leavesIn 64 = .ok (.iadd, 1) := by decide +kernel
theorem dX6_leavesIn_65 : decode cX6_leavesIn 65 = .ok (.iaload, 1) := by decide +kernel
theorem dX6_leavesIn_66 : decode cX6_leavesIn 66 = .ok (.bipush 100, 2) := by decide +kernel
theorem dX6_leavesIn_68 : decode cX6_leavesIn 68 = .ok (.if_icmp .eq 13, 3) := by decide +kernel
theorem dX6_leavesIn_71 : decode cX6_leavesIn 71 = .ok (.aload_n 0, 1) := by decide +kernel
theorem dX6_leavesIn_72 : decode cX6_leavesIn 72 = .ok (.invokevirtual 135, 3) := by decide +kernel
theorem dX6_leavesIn_75 : decode cX6_leavesIn 75 = .ok (.iinc 2 1, 3) := by decide +kernel
theorem dX6_leavesIn_78 : decode cX6_leavesIn 78 = .ok (.goto (-28), 3) := by decide +kernel
theorem dX6_leavesIn_81 : decode cX6_leavesIn 81 = .ok (.aload_n 0, 1) := by decide +kernel
theorem dX6_leavesIn_82 : decode cX6_leavesIn 82 = .ok (.getfield 41, 3) := by decide +kernel
theorem dX6_leavesIn_85 : decode cX6_leavesIn 85 = .ok (.bipush 82, 2) := by decide +kernel
theorem dX6_leavesIn_87 : decode cX6_leavesIn 87 = .ok (.iload_n 1, 1) := by decide +kernel
theorem dX6_leavesIn_88 : decode cX6_leavesIn 88 = .ok (.iadd, 1) := by decide +kernel
theorem dX6_leavesIn_89 : decode cX6_leavesIn 89 = .ok (.iaload, 1) := by decide +kernel
theorem dX6_leavesIn_90 : decode cX6_leavesIn 90 = .ok (.bipush 100, 2) := by decide +kernel
theorem dX6_leavesIn_92 : decode cX6_leavesIn 92 = .ok (.if_icmp .ne 7, 3) := by decide +kernel
theorem dX6_leavesIn_95 : decode cX6_leavesIn 95 = .ok (.iconst 1, 1) := by decide +kernel
theorem dX6_leavesIn_96 : decode cX6_leavesIn 96 = .ok (.goto 4, 3) := by decide +kernel
theorem dX6_leavesIn_99 : decode cX6_leavesIn 99 = .ok (.iconst 0, 1) := by decide +kernel
theorem dX6_leavesIn_100 : decode cX6_leavesIn 100 = .ok (.istore_n 3, 1) := by decide +kernel
theorem dX6_leavesIn_101 : decode cX6_leavesIn 101 = .ok (.aload_n 0, 1) := by decide +kernel
theorem dX6_leavesIn_102 : decode cX6_leavesIn 102 = .ok (.invokevirtual 151, 3) := by decide +kernel
theorem dX6_leavesIn_105 : decode cX6_leavesIn 105 = .ok (.aload_n 0, 1) := by decide +kernel
theorem dX6_leavesIn_106 : decode cX6_leavesIn 106 = .ok (.iload_n 3, 1) := by decide +kernel
theorem dX6_leavesIn_107 : decode cX6_leavesIn 107 = .ok (.ifCond .eq 7, 3) := by decide +kernel
theorem dX6_leavesIn_110 : decode cX6_leavesIn 110 = .ok (.iconst 0, 1) := by decide +kernel
theorem dX6_leavesIn_111 : decode cX6_leavesIn 111 = .ok (.goto 4, 3) := by decide +kernel
theorem dX6_leavesIn_114 : decode cX6_leavesIn 114 = .ok (.iconst 3, 1) := by decide +kernel
theorem dX6_leavesIn_115 : decode cX6_leavesIn 115 = .ok (.putfield 54, 3) := by decide +kernel
theorem dX6_leavesIn_118 : decode cX6_leavesIn 118 = .ok (.iload_n 3, 1) := by decide +kernel
theorem dX6_leavesIn_119 : decode cX6_leavesIn 119 = .ok (.ifCond .eq 7, 3) := by decide +kernel
theorem dX6_leavesIn_122 : decode cX6_leavesIn 122 = .ok (.iload_n 2, 1) := by decide +kernel
theorem dX6_leavesIn_123 : decode cX6_leavesIn 123 = .ok (.goto 4, 3) := by decide +kernel
theorem dX6_leavesIn_126 : decode cX6_leavesIn 126 = .ok (.iconst (-1), 1) := by decide +kernel
theorem dX6_leavesIn_127 : decode cX6_leavesIn 127 = .ok (.ireturn, 1) := by decide +kernel
theorem dX6_leavesByTicks_0 : decode cX6_leavesByTicks 0 = .ok (.aload_n 0, 1) := by decide +kernel
theorem dX6_leavesByTicks_1 : decode cX6_leavesByTicks 1 = .ok (.iload_n 1, 1) := by decide +kernel
theorem dX6_leavesByTicks_2 : decode cX6_leavesByTicks 2 = .ok (.invokevirtual 154, 3) := by decide +kernel
theorem dX6_leavesByTicks_5 : decode cX6_leavesByTicks 5 = .ok (.ireturn, 1) := by decide +kernel
theorem dX6_nextToLeave_0 : decode cX6_nextToLeave 0 = .ok (.aload_n 0, 1) := by decide +kernel
theorem dX6_nextToLeave_1 : decode cX6_nextToLeave 1 = .ok (.invokevirtual 148, 3) := by decide +kernel
theorem dX6_nextToLeave_4 : decode cX6_nextToLeave 4 = .ok (.aload_n 0, 1) := by decide +kernel
theorem dX6_nextToLeave_5 : decode cX6_nextToLeave 5 = .ok (.getfield 41, 3) := by decide +kernel
theorem dX6_nextToLeave_8 : decode cX6_nextToLeave 8 = .ok (.sipush 235, 3) := by decide +kernel
theorem dX6_nextToLeave_11 : decode cX6_nextToLeave 11 = .ok (.iaload, 1) := by decide +kernel
theorem dX6_nextToLeave_12 : decode cX6_nextToLeave 12 = .ok (.istore_n 1, 1) := by decide +kernel
theorem dX6_nextToLeave_13 : decode cX6_nextToLeave 13 = .ok (.iconst 0, 1) := by decide +kernel
theorem dX6_nextToLeave_14 : decode cX6_nextToLeave 14 = .ok (.istore_n 2, 1) := by decide +kernel
theorem dX6_nextToLeave_15 : decode cX6_nextToLeave 15 = .ok (.iload_n 2, 1) := by decide +kernel
theorem dX6_nextToLeave_16 : decode cX6_nextToLeave 16 = .ok (.sipush 300, 3) := by decide +kernel
theorem dX6_nextToLeave_19 : decode cX6_nextToLeave 19 = .ok (.if_icmp .ge 32, 3) := by decide +kernel
theorem dX6_nextToLeave_22 : decode cX6_nextToLeave 22 = .ok (.aload_n 0, 1) := by decide +kernel
theorem dX6_nextToLeave_23 : decode cX6_nextToLeave 23 = .ok (.getfield 41, 3) := by decide +kernel
theorem dX6_nextToLeave_26 : decode cX6_nextToLeave 26 = .ok (.sipush 235, 3) := by decide +kernel
theorem dX6_nextToLeave_29 : decode cX6_nextToLeave 29 = .ok (.iaload, 1) := by decide +kernel
theorem dX6_nextToLeave_30 : decode cX6_nextToLeave 30 = .ok (.iload_n 1, 1) := by decide +kernel
theorem dX6_nextToLeave_31 : decode cX6_nextToLeave 31 = .ok (.if_icmp .ne 20, 3) := by decide +kernel
theorem dX6_nextToLeave_34 : decode cX6_nextToLeave 34 = .ok (.aload_n 0, 1) := by decide +kernel
theorem dX6_nextToLeave_35 : decode cX6_nextToLeave 35 = .ok (.getfield 71, 3) := by decide +kernel
theorem dX6_nextToLeave_38 : decode cX6_nextToLeave 38 = .ok (.ifCond .le 13, 3) := by decide +kernel
theorem dX6_nextToLeave_41 : decode cX6_nextToLeave 41 = .ok (.aload_n 0, 1) := by decide +kernel
theorem dX6_nextToLeave_42 : decode cX6_nextToLeave 42 = .ok (.invokevirtual 135, 3) := by decide +kernel
theorem dX6_nextToLeave_45 : decode cX6_nextToLeave 45 = .ok (.iinc 2 1, 3) := by decide +kernel
theorem dX6_nextToLeave_48 : decode cX6_nextToLeave 48 = .ok (.goto (-33), 3) := by decide +kernel
theorem dX6_nextToLeave_51 : decode cX6_nextToLeave 51 = .ok (.aload_n 0, 1) := by decide +kernel
theorem dX6_nextToLeave_52 : decode cX6_nextToLeave 52 = .ok (.getfield 41, 3) := by decide +kernel
theorem dX6_nextToLeave_55 : decode cX6_nextToLeave 55 = .ok (.sipush 235, 3) := by decide +kernel
theorem dX6_nextToLeave_58 : decode cX6_nextToLeave 58 = .ok (.iaload, 1) := by decide +kernel
theorem dX6_nextToLeave_59 : decode cX6_nextToLeave 59 = .ok (.iload_n 1, 1) := by decide +kernel
theorem dX6_nextToLeave_60 : decode cX6_nextToLeave 60 = .ok (.if_icmp .le 16, 3) := by decide +kernel
theorem dX6_nextToLeave_63 : decode cX6_nextToLeave 63 = .ok (.aload_n 0, 1) := by decide +kernel
theorem dX6_nextToLeave_64 : decode cX6_nextToLeave 64 = .ok (.getfield 41, 3) := by decide +kernel
theorem dX6_nextToLeave_67 : decode cX6_nextToLeave 67 = .ok (.sipush 202, 3) := by decide +kernel
theorem dX6_nextToLeave_70 : decode cX6_nextToLeave 70 = .ok (.iload_n 1, 1) := by decide +kernel
theorem dX6_nextToLeave_71 : decode cX6_nextToLeave 71 = .ok (.iadd, 1) := by decide +kernel
theorem dX6_nextToLeave_72 : decode cX6_nextToLeave 72 = .ok (.iaload, 1) := by decide +kernel
theorem dX6_nextToLeave_73 : decode cX6_nextToLeave 73 = .ok (.goto 4, 3) := by decide +kernel
theorem dX6_nextToLeave_76 : decode cX6_nextToLeave 76 = .ok (.iconst (-1), 1) := by decide +kernel
theorem dX6_nextToLeave_77 : decode cX6_nextToLeave 77 = .ok (.istore_n 2, 1) := by decide +kernel
theorem dX6_nextToLeave_78 : decode cX6_nextToLeave 78 = .ok (.aload_n 0, 1) := by decide +kernel
theorem dX6_nextToLeave_79 : decode cX6_nextToLeave 79 = .ok (.invokevirtual 151, 3) := by decide +kernel
theorem dX6_nextToLeave_82 : decode cX6_nextToLeave 82 = .ok (.aload_n 0, 1) := by decide +kernel
theorem dX6_nextToLeave_83 : decode cX6_nextToLeave 83 = .ok (.iload_n 2, 1) := by decide +kernel
theorem dX6_nextToLeave_84 : decode cX6_nextToLeave 84 = .ok (.iconst (-1), 1) := by decide +kernel
theorem dX6_nextToLeave_85 : decode cX6_nextToLeave 85 = .ok (.if_icmp .ne 7, 3) := by decide +kernel
theorem dX6_nextToLeave_88 : decode cX6_nextToLeave 88 = .ok (.iconst 1, 1) := by decide +kernel
theorem dX6_nextToLeave_89 : decode cX6_nextToLeave 89 = .ok (.goto 4, 3) := by decide +kernel
theorem dX6_nextToLeave_92 : decode cX6_nextToLeave 92 = .ok (.iconst 0, 1) := by decide +kernel
theorem dX6_nextToLeave_93 : decode cX6_nextToLeave 93 = .ok (.putfield 54, 3) := by decide +kernel
theorem dX6_nextToLeave_96 : decode cX6_nextToLeave 96 = .ok (.iload_n 2, 1) := by decide +kernel
theorem dX6_nextToLeave_97 : decode cX6_nextToLeave 97 = .ok (.ireturn, 1) := by decide +kernel
theorem dX6_traceLength_0 : decode cX6_traceLength 0 = .ok (.aload_n 0, 1) := by decide +kernel
theorem dX6_traceLength_1 : decode cX6_traceLength 1 = .ok (.iload_n 1, 1) := by decide +kernel
theorem dX6_traceLength_2 : decode cX6_traceLength 2 = .ok (.invokevirtual 138, 3) := by decide +kernel
theorem dX6_traceLength_5 : decode cX6_traceLength 5 = .ok (.ifCond .eq 7, 3) := by decide +kernel
theorem dX6_traceLength_8 : decode cX6_traceLength 8 = .ok (.iconst 0, 1) := by decide +kernel
theorem dX6_traceLength_9 : decode cX6_traceLength 9 = .ok (.goto 4, 3) := by decide +kernel
theorem dX6_traceLength_12 : decode cX6_traceLength 12 = .ok (.iconst (-1), 1) := by decide +kernel
theorem dX6_traceLength_13 : decode cX6_traceLength 13 = .ok (.istore_n 2, 1) := by decide +kernel
theorem dX6_traceLength_14 : decode cX6_traceLength 14 = .ok (.iconst 0, 1) := by decide +kernel
theorem dX6_traceLength_15 : decode cX6_traceLength 15 = .ok (.istore_n 3, 1) := by decide +kernel
theorem dX6_traceLength_16 : decode cX6_traceLength 16 = .ok (.iload_n 3, 1) := by decide +kernel
theorem dX6_traceLength_17 : decode cX6_traceLength 17 = .ok (.aload_n 0, 1) := by decide +kernel
theorem dX6_traceLength_18 : decode cX6_traceLength 18 = .ok (.getfield 104, 3) := by decide +kernel
theorem dX6_traceLength_21 : decode cX6_traceLength 21 = .ok (.if_icmp .ge 34, 3) := by decide +kernel
theorem dX6_traceLength_24 : decode cX6_traceLength 24 = .ok (.aload_n 0, 1) := by decide +kernel
theorem dX6_traceLength_25 : decode cX6_traceLength 25 = .ok (.getfield 54, 3) := by decide +kernel
theorem dX6_traceLength_28 : decode cX6_traceLength 28 = .ok (.ifCond .ne 27, 3) := by decide +kernel
theorem dX6_traceLength_31 : decode cX6_traceLength 31 = .ok (.iload_n 2, 1) := by decide +kernel
theorem dX6_traceLength_32 : decode cX6_traceLength 32 = .ok (.aload_n 0, 1) := by decide +kernel
theorem dX6_traceLength_33 : decode cX6_traceLength 33 = .ok (.getfield 51, 3) := by decide +kernel
theorem dX6_traceLength_36 : decode cX6_traceLength 36 = .ok (.iload_n 3, 1) := by decide +kernel
theorem dX6_traceLength_37 : decode cX6_traceLength 37 = .ok (.iaload, 1) := by decide +kernel
theorem dX6_traceLength_38 : decode cX6_traceLength 38 = .ok (.iload_n 1, 1) := by decide +kernel
theorem dX6_traceLength_39 : decode cX6_traceLength 39 = .ok (.if_icmp .ne 7, 3) := by decide +kernel
theorem dX6_traceLength_42 : decode cX6_traceLength 42 = .ok (.iconst 1, 1) := by decide +kernel
theorem dX6_traceLength_43 : decode cX6_traceLength 43 = .ok (.goto 4, 3) := by decide +kernel
theorem dX6_traceLength_46 : decode cX6_traceLength 46 = .ok (.iconst 0, 1) := by decide +kernel
theorem dX6_traceLength_47 : decode cX6_traceLength 47 = .ok (.iadd, 1) := by decide +kernel
theorem dX6_traceLength_48 : decode cX6_traceLength 48 = .ok (.istore_n 2, 1) := by decide +kernel
theorem dX6_traceLength_49 : decode cX6_traceLength 49 = .ok (.iinc 3 1, 3) := by decide +kernel
theorem dX6_traceLength_52 : decode cX6_traceLength 52 = .ok (.goto (-36), 3) := by decide +kernel
theorem dX6_traceLength_55 : decode cX6_traceLength 55 = .ok (.iload_n 2, 1) := by decide +kernel
theorem dX6_traceLength_56 : decode cX6_traceLength 56 = .ok (.ireturn, 1) := by decide +kernel
theorem dX6_traceAt_0 : decode cX6_traceAt 0 = .ok (.aload_n 0, 1) := by decide +kernel
theorem dX6_traceAt_1 : decode cX6_traceAt 1 = .ok (.iload_n 1, 1) := by decide +kernel
theorem dX6_traceAt_2 : decode cX6_traceAt 2 = .ok (.invokevirtual 138, 3) := by decide +kernel
theorem dX6_traceAt_5 : decode cX6_traceAt 5 = .ok (.ifCond .ne 6, 3) := by decide +kernel
theorem dX6_traceAt_8 : decode cX6_traceAt 8 = .ok (.bipush 32, 2) := by decide +kernel
theorem dX6_traceAt_10 : decode cX6_traceAt 10 = .ok (.ireturn, 1) := by decide +kernel
theorem dX6_traceAt_11 : decode cX6_traceAt 11 = .ok (.iconst 0, 1) := by decide +kernel
theorem dX6_traceAt_12 : decode cX6_traceAt 12 = .ok (.istore_n 3, 1) := by decide +kernel
theorem dX6_traceAt_13 : decode cX6_traceAt 13 = .ok (.iconst 0, 1) := by decide +kernel
theorem dX6_traceAt_14 : decode cX6_traceAt 14 = .ok (.istore 4, 2) := by decide +kernel
theorem dX6_traceAt_16 : decode cX6_traceAt 16 = .ok (.iload 4, 2) := by decide +kernel
theorem dX6_traceAt_18 : decode cX6_traceAt 18 = .ok (.aload_n 0, 1) := by decide +kernel
theorem dX6_traceAt_19 : decode cX6_traceAt 19 = .ok (.getfield 104, 3) := by decide +kernel
theorem dX6_traceAt_22 : decode cX6_traceAt 22 = .ok (.if_icmp .ge 52, 3) := by decide +kernel
theorem dX6_traceAt_25 : decode cX6_traceAt 25 = .ok (.aload_n 0, 1) := by decide +kernel
theorem dX6_traceAt_26 : decode cX6_traceAt 26 = .ok (.getfield 51, 3) := by decide +kernel
theorem dX6_traceAt_29 : decode cX6_traceAt 29 = .ok (.iload 4, 2) := by decide +kernel
theorem dX6_traceAt_31 : decode cX6_traceAt 31 = .ok (.iaload, 1) := by decide +kernel
theorem dX6_traceAt_32 : decode cX6_traceAt 32 = .ok (.iload_n 1, 1) := by decide +kernel
theorem dX6_traceAt_33 : decode cX6_traceAt 33 = .ok (.if_icmp .ne 16, 3) := by decide +kernel
theorem dX6_traceAt_36 : decode cX6_traceAt 36 = .ok (.iload_n 3, 1) := by decide +kernel
theorem dX6_traceAt_37 : decode cX6_traceAt 37 = .ok (.iload_n 2, 1) := by decide +kernel
theorem dX6_traceAt_38 : decode cX6_traceAt 38 = .ok (.if_icmp .ne 11, 3) := by decide +kernel
theorem dX6_traceAt_41 : decode cX6_traceAt 41 = .ok (.aload_n 0, 1) := by decide +kernel
theorem dX6_traceAt_42 : decode cX6_traceAt 42 = .ok (.getfield 47, 3) := by decide +kernel
theorem dX6_traceAt_45 : decode cX6_traceAt 45 = .ok (.iload 4, 2) := by decide +kernel
theorem dX6_traceAt_47 : decode cX6_traceAt 47 = .ok (.caload, 1) := by decide +kernel
theorem dX6_traceAt_48 : decode cX6_traceAt 48 = .ok (.ireturn, 1) := by decide +kernel
theorem dX6_traceAt_49 : decode cX6_traceAt 49 = .ok (.iload_n 3, 1) := by decide +kernel
theorem dX6_traceAt_50 : decode cX6_traceAt 50 = .ok (.aload_n 0, 1) := by decide +kernel
theorem dX6_traceAt_51 : decode cX6_traceAt 51 = .ok (.getfield 51, 3) := by decide +kernel
theorem dX6_traceAt_54 : decode cX6_traceAt 54 = .ok (.iload 4, 2) := by decide +kernel
theorem dX6_traceAt_56 : decode cX6_traceAt 56 = .ok (.iaload, 1) := by decide +kernel
theorem dX6_traceAt_57 : decode cX6_traceAt 57 = .ok (.iload_n 1, 1) := by decide +kernel
theorem dX6_traceAt_58 : decode cX6_traceAt 58 = .ok (.if_icmp .ne 7, 3) := by decide +kernel
theorem dX6_traceAt_61 : decode cX6_traceAt 61 = .ok (.iconst 1, 1) := by decide +kernel
theorem dX6_traceAt_62 : decode cX6_traceAt 62 = .ok (.goto 4, 3) := by decide +kernel
theorem dX6_traceAt_65 : decode cX6_traceAt 65 = .ok (.iconst 0, 1) := by decide +kernel
theorem dX6_traceAt_66 : decode cX6_traceAt 66 = .ok (.iadd, 1) := by decide +kernel
theorem dX6_traceAt_67 : decode cX6_traceAt 67 = .ok (.istore_n 3, 1) := by decide +kernel
theorem dX6_traceAt_68 : decode cX6_traceAt 68 = .ok (.iinc 4 1, 3) := by decide +kernel
theorem dX6_traceAt_71 : decode cX6_traceAt 71 = .ok (.goto (-55), 3) := by decide +kernel
theorem dX6_traceAt_74 : decode cX6_traceAt 74 = .ok (.aload_n 0, 1) := by decide +kernel
theorem dX6_traceAt_75 : decode cX6_traceAt 75 = .ok (.iconst 2, 1) := by decide +kernel
theorem dX6_traceAt_76 : decode cX6_traceAt 76 = .ok (.putfield 54, 3) := by decide +kernel
theorem dX6_traceAt_79 : decode cX6_traceAt 79 = .ok (.bipush 32, 2) := by decide +kernel
theorem dX6_traceAt_81 : decode cX6_traceAt 81 = .ok (.ireturn, 1) := by decide +kernel
theorem dX6_count_0 : decode cX6_count 0 = .ok (.iconst 0, 1) := by decide +kernel
theorem dX6_count_1 : decode cX6_count 1 = .ok (.istore_n 2, 1) := by decide +kernel
theorem dX6_count_2 : decode cX6_count 2 = .ok (.iconst 0, 1) := by decide +kernel
theorem dX6_count_3 : decode cX6_count 3 = .ok (.istore_n 3, 1) := by decide +kernel
theorem dX6_count_4 : decode cX6_count 4 = .ok (.iload_n 3, 1) := by decide +kernel
theorem dX6_count_5 : decode cX6_count 5 = .ok (.aload_n 0, 1) := by decide +kernel
theorem dX6_count_6 : decode cX6_count 6 = .ok (.getfield 104, 3) := by decide +kernel
theorem dX6_count_9 : decode cX6_count 9 = .ok (.if_icmp .ge 27, 3) := by decide +kernel
theorem dX6_count_12 : decode cX6_count 12 = .ok (.iload_n 2, 1) := by decide +kernel
theorem dX6_count_13 : decode cX6_count 13 = .ok (.aload_n 0, 1) := by decide +kernel
theorem dX6_count_14 : decode cX6_count 14 = .ok (.getfield 47, 3) := by decide +kernel
theorem dX6_count_17 : decode cX6_count 17 = .ok (.iload_n 3, 1) := by decide +kernel
theorem dX6_count_18 : decode cX6_count 18 = .ok (.caload, 1) := by decide +kernel
theorem dX6_count_19 : decode cX6_count 19 = .ok (.iload_n 1, 1) := by decide +kernel
theorem dX6_count_20 : decode cX6_count 20 = .ok (.if_icmp .ne 7, 3) := by decide +kernel
theorem dX6_count_23 : decode cX6_count 23 = .ok (.iconst 1, 1) := by decide +kernel
theorem dX6_count_24 : decode cX6_count 24 = .ok (.goto 4, 3) := by decide +kernel
theorem dX6_count_27 : decode cX6_count 27 = .ok (.iconst 0, 1) := by decide +kernel
theorem dX6_count_28 : decode cX6_count 28 = .ok (.iadd, 1) := by decide +kernel
theorem dX6_count_29 : decode cX6_count 29 = .ok (.istore_n 2, 1) := by decide +kernel
theorem dX6_count_30 : decode cX6_count 30 = .ok (.iinc 3 1, 3) := by decide +kernel
theorem dX6_count_33 : decode cX6_count 33 = .ok (.goto (-29), 3) := by decide +kernel
theorem dX6_count_36 : decode cX6_count 36 = .ok (.iload_n 2, 1) := by decide +kernel
theorem dX6_count_37 : decode cX6_count 37 = .ok (.ireturn, 1) := by decide +kernel
theorem dX6_countOf_0 : decode cX6_countOf 0 = .ok (.iload_n 1, 1) := by decide +kernel
theorem dX6_countOf_1 : decode cX6_countOf 1 = .ok (.bipush 43, 2) := by decide +kernel
theorem dX6_countOf_3 : decode cX6_countOf 3 = .ok (.if_icmp .eq 27, 3) := by decide +kernel
theorem dX6_countOf_6 : decode cX6_countOf 6 = .ok (.iload_n 1, 1) := by decide +kernel
theorem dX6_countOf_7 : decode cX6_countOf 7 = .ok (.bipush 45, 2) := by decide +kernel
theorem dX6_countOf_9 : decode cX6_countOf 9 = .ok (.if_icmp .eq 21, 3) := by decide +kernel
theorem dX6_countOf_12 : decode cX6_countOf 12 = .ok (.iload_n 1, 1) := by decide +kernel
theorem dX6_countOf_13 : decode cX6_countOf 13 = .ok (.bipush 46, 2) := by decide +kernel
theorem dX6_countOf_15 : decode cX6_countOf 15 = .ok (.if_icmp .eq 15, 3) := by decide +kernel
theorem dX6_countOf_18 : decode cX6_countOf 18 = .ok (.iload_n 1, 1) := by decide +kernel
theorem dX6_countOf_19 : decode cX6_countOf 19 = .ok (.bipush 76, 2) := by decide +kernel
theorem dX6_countOf_21 : decode cX6_countOf 21 = .ok (.if_icmp .eq 9, 3) := by decide +kernel
theorem dX6_countOf_24 : decode cX6_countOf 24 = .ok (.iload_n 1, 1) := by decide +kernel
theorem dX6_countOf_25 : decode cX6_countOf 25 = .ok (.bipush 120, 2) := by decide +kernel
theorem dX6_countOf_27 : decode cX6_countOf 27 = .ok (.if_icmp .ne 7, 3) := by decide +kernel
theorem dX6_countOf_30 : decode cX6_countOf 30 = .ok (.iconst 1, 1) := by decide +kernel
theorem dX6_countOf_31 : decode cX6_countOf 31 = .ok (.goto 4, 3) := by decide +kernel
theorem dX6_countOf_34 : decode cX6_countOf 34 = .ok (.iconst 0, 1) := by decide +kernel
theorem dX6_countOf_35 : decode cX6_countOf 35 = .ok (.istore_n 2, 1) := by decide +kernel
theorem dX6_countOf_36 : decode cX6_countOf 36 = .ok (.aload_n 0, 1) := by decide +kernel
theorem dX6_countOf_37 : decode cX6_countOf 37 = .ok (.iload_n 2, 1) := by decide +kernel
theorem dX6_countOf_38 : decode cX6_countOf 38 = .ok (.ifCond .eq 7, 3) := by decide +kernel
theorem dX6_countOf_41 : decode cX6_countOf 41 = .ok (.iconst 0, 1) := by decide +kernel
theorem dX6_countOf_42 : decode cX6_countOf 42 = .ok (.goto 4, 3) := by decide +kernel
theorem dX6_countOf_45 : decode cX6_countOf 45 = .ok (.iconst 1, 1) := by decide +kernel
theorem dX6_countOf_46 : decode cX6_countOf 46 = .ok (.putfield 54, 3) := by decide +kernel
theorem dX6_countOf_49 : decode cX6_countOf 49 = .ok (.iload_n 2, 1) := by decide +kernel
theorem dX6_countOf_50 : decode cX6_countOf 50 = .ok (.ifCond .eq 11, 3) := by decide +kernel
theorem dX6_countOf_53 : decode cX6_countOf 53 = .ok (.aload_n 0, 1) := by decide +kernel
theorem dX6_countOf_54 : decode cX6_countOf 54 = .ok (.iload_n 1, 1) := by decide +kernel
theorem dX6_countOf_55 : decode cX6_countOf 55 = .ok (.invokevirtual 157, 3) := by decide +kernel
theorem dX6_countOf_58 : decode cX6_countOf 58 = .ok (.goto 4, 3) := by decide +kernel
theorem dX6_countOf_61 : decode cX6_countOf 61 = .ok (.iconst (-1), 1) := by decide +kernel
theorem dX6_countOf_62 : decode cX6_countOf 62 = .ok (.ireturn, 1) := by decide +kernel
theorem dX6_fitted_0 : decode cX6_fitted 0 = .ok (.aload_n 0, 1) := by decide +kernel
theorem dX6_fitted_1 : decode cX6_fitted 1 = .ok (.iconst 0, 1) := by decide +kernel
theorem dX6_fitted_2 : decode cX6_fitted 2 = .ok (.putfield 54, 3) := by decide +kernel
theorem dX6_fitted_5 : decode cX6_fitted 5 = .ok (.aload_n 0, 1) := by decide +kernel
theorem dX6_fitted_6 : decode cX6_fitted 6 = .ok (.getfield 111, 3) := by decide +kernel
theorem dX6_fitted_9 : decode cX6_fitted 9 = .ok (.lreturn, 1) := by decide +kernel
theorem dX6_lackShare_0 : decode cX6_lackShare 0 = .ok (.aload_n 0, 1) := by decide +kernel
theorem dX6_lackShare_1 : decode cX6_lackShare 1 = .ok (.bipush 45, 2) := by decide +kernel
end
section
theorem dX6_lackShare_3 : decode cX6_lackShare 3 = .ok (.invokevirtual 157, 3) := by decide +kernel
theorem dX6_lackShare_6 : decode cX6_lackShare 6 = .ok (.istore_n 1, 1) := by decide +kernel
theorem dX6_lackShare_7 : decode cX6_lackShare 7 = .ok (.iload_n 1, 1) := by decide +kernel
theorem dX6_lackShare_8 : decode cX6_lackShare 8 = .ok (.aload_n 0, 1) := by decide +kernel
theorem dX6_lackShare_9 : decode cX6_lackShare 9 = .ok (.bipush 43, 2) := by decide +kernel
theorem dX6_lackShare_11 : decode cX6_lackShare 11 = .ok (.invokevirtual 157, 3) := by decide +kernel
theorem dX6_lackShare_14 : decode cX6_lackShare 14 = .ok (.iadd, 1) := by decide +kernel
theorem dX6_lackShare_15 : decode cX6_lackShare 15 = .ok (.aload_n 0, 1) := by decide +kernel
theorem dX6_lackShare_16 : decode cX6_lackShare 16 = .ok (.bipush 46, 2) := by decide +kernel
theorem dX6_lackShare_18 : decode cX6_lackShare 18 = .ok (.invokevirtual 157, 3) := by decide +kernel
theorem dX6_lackShare_21 : decode cX6_lackShare 21 = .ok (.iadd, 1) := by decide +kernel
theorem dX6_lackShare_22 : decode cX6_lackShare 22 = .ok (.istore_n 2, 1) := by decide +kernel
theorem dX6_lackShare_23 : decode cX6_lackShare 23 = .ok (.aload_n 0, 1) := by decide +kernel
theorem dX6_lackShare_24 : decode cX6_lackShare 24 = .ok (.iload_n 2, 1) := by decide +kernel
theorem dX6_lackShare_25 : decode cX6_lackShare 25 = .ok (.ifCond .ne 7, 3) := by decide +kernel
theorem dX6_lackShare_28 : decode cX6_lackShare 28 = .ok (.iconst 1, 1) := by decide +kernel
theorem dX6_lackShare_29 : decode cX6_lackShare 29 = .ok (.goto 4, 3) := by decide +kernel
theorem dX6_lackShare_32 : decode cX6_lackShare 32 = .ok (.iconst 0, 1) := by decide +kernel
theorem dX6_lackShare_33 : decode cX6_lackShare 33 = .ok (.putfield 54, 3) := by decide +kernel
theorem dX6_lackShare_36 : decode cX6_lackShare 36 = .ok (.iload_n 2, 1) := by decide +kernel
theorem dX6_lackShare_37 : decode cX6_lackShare 37 = .ok (.ifCond .ne 7, 3) := by decide +kernel
theorem dX6_lackShare_40 : decode cX6_lackShare 40 = .ok (.fconst 0, 1) := by decide +kernel
theorem dX6_lackShare_41 : decode cX6_lackShare 41 = .ok (.goto 8, 3) := by decide +kernel
theorem dX6_lackShare_44 : decode cX6_lackShare 44 = .ok (.iload_n 1, 1) := by decide +kernel
theorem dX6_lackShare_45 : decode cX6_lackShare 45 = .ok (.i2f, 1) := by decide +kernel
theorem dX6_lackShare_46 : decode cX6_lackShare 46 = .ok (.iload_n 2, 1) := by decide +kernel
theorem dX6_lackShare_47 : decode cX6_lackShare 47 = .ok (.i2f, 1) := by decide +kernel
theorem dX6_lackShare_48 : decode cX6_lackShare 48 = .ok (.fdiv, 1) := by decide +kernel
theorem dX6_lackShare_49 : decode cX6_lackShare 49 = .ok (.freturn, 1) := by decide +kernel
theorem dX6_meanTime_0 : decode cX6_meanTime 0 = .ok (.iconst 0, 1) := by decide +kernel
theorem dX6_meanTime_1 : decode cX6_meanTime 1 = .ok (.istore_n 1, 1) := by decide +kernel
theorem dX6_meanTime_2 : decode cX6_meanTime 2 = .ok (.iconst 0, 1) := by decide +kernel
theorem dX6_meanTime_3 : decode cX6_meanTime 3 = .ok (.istore_n 2, 1) := by decide +kernel
theorem dX6_meanTime_4 : decode cX6_meanTime 4 = .ok (.iload_n 2, 1) := by decide +kernel
theorem dX6_meanTime_5 : decode cX6_meanTime 5 = .ok (.aload_n 0, 1) := by decide +kernel
theorem dX6_meanTime_6 : decode cX6_meanTime 6 = .ok (.getfield 41, 3) := by decide +kernel
theorem dX6_meanTime_9 : decode cX6_meanTime 9 = .ok (.sipush 235, 3) := by decide +kernel
theorem dX6_meanTime_12 : decode cX6_meanTime 12 = .ok (.iaload, 1) := by decide +kernel
theorem dX6_meanTime_13 : decode cX6_meanTime 13 = .ok (.if_icmp .ge 36, 3) := by decide +kernel
theorem dX6_meanTime_16 : decode cX6_meanTime 16 = .ok (.aload_n 0, 1) := by decide +kernel
theorem dX6_meanTime_17 : decode cX6_meanTime 17 = .ok (.getfield 41, 3) := by decide +kernel
theorem dX6_meanTime_20 : decode cX6_meanTime 20 = .ok (.sipush 202, 3) := by decide +kernel
theorem dX6_meanTime_23 : decode cX6_meanTime 23 = .ok (.iload_n 2, 1) := by decide +kernel
theorem dX6_meanTime_24 : decode cX6_meanTime 24 = .ok (.iadd, 1) := by decide +kernel
theorem dX6_meanTime_25 : decode cX6_meanTime 25 = .ok (.iaload, 1) := by decide +kernel
theorem dX6_meanTime_26 : decode cX6_meanTime 26 = .ok (.istore_n 3, 1) := by decide +kernel
theorem dX6_meanTime_27 : decode cX6_meanTime 27 = .ok (.iload_n 1, 1) := by decide +kernel
theorem dX6_meanTime_28 : decode cX6_meanTime 28 = .ok (.aload_n 0, 1) := by decide +kernel
theorem dX6_meanTime_29 : decode cX6_meanTime 29 = .ok (.getfield 35, 3) := by decide +kernel
theorem dX6_meanTime_32 : decode cX6_meanTime 32 = .ok (.iload_n 3, 1) := by decide +kernel
theorem dX6_meanTime_33 : decode cX6_meanTime 33 = .ok (.iaload, 1) := by decide +kernel
theorem dX6_meanTime_34 : decode cX6_meanTime 34 = .ok (.aload_n 0, 1) := by decide +kernel
theorem dX6_meanTime_35 : decode cX6_meanTime 35 = .ok (.getfield 32, 3) := by decide +kernel
theorem dX6_meanTime_38 : decode cX6_meanTime 38 = .ok (.iload_n 3, 1) := by decide +kernel
theorem dX6_meanTime_39 : decode cX6_meanTime 39 = .ok (.iaload, 1) := by decide +kernel
theorem dX6_meanTime_40 : decode cX6_meanTime 40 = .ok (.isub, 1) := by decide +kernel
theorem dX6_meanTime_41 : decode cX6_meanTime 41 = .ok (.iadd, 1) := by decide +kernel
theorem dX6_meanTime_42 : decode cX6_meanTime 42 = .ok (.istore_n 1, 1) := by decide +kernel
theorem dX6_meanTime_43 : decode cX6_meanTime 43 = .ok (.iinc 2 1, 3) := by decide +kernel
theorem dX6_meanTime_46 : decode cX6_meanTime 46 = .ok (.goto (-42), 3) := by decide +kernel
theorem dX6_meanTime_49 : decode cX6_meanTime 49 = .ok (.aload_n 0, 1) := by decide +kernel
theorem dX6_meanTime_50 : decode cX6_meanTime 50 = .ok (.aload_n 0, 1) := by decide +kernel
theorem dX6_meanTime_51 : decode cX6_meanTime 51 = .ok (.getfield 41, 3) := by decide +kernel
theorem dX6_meanTime_54 : decode cX6_meanTime 54 = .ok (.sipush 235, 3) := by decide +kernel
theorem dX6_meanTime_57 : decode cX6_meanTime 57 = .ok (.iaload, 1) := by decide +kernel
theorem dX6_meanTime_58 : decode cX6_meanTime 58 = .ok (.ifCond .ne 7, 3) := by decide +kernel
theorem dX6_meanTime_61 : decode cX6_meanTime 61 = .ok (.iconst 1, 1) := by decide +kernel
theorem dX6_meanTime_62 : decode cX6_meanTime 62 = .ok (.goto 4, 3) := by decide +kernel
theorem dX6_meanTime_65 : decode cX6_meanTime 65 = .ok (.iconst 0, 1) := by decide +kernel
theorem dX6_meanTime_66 : decode cX6_meanTime 66 = .ok (.putfield 54, 3) := by decide +kernel
theorem dX6_meanTime_69 : decode cX6_meanTime 69 = .ok (.aload_n 0, 1) := by decide +kernel
theorem dX6_meanTime_70 : decode cX6_meanTime 70 = .ok (.getfield 54, 3) := by decide +kernel
theorem dX6_meanTime_73 : decode cX6_meanTime 73 = .ok (.ifCond .ne 18, 3) := by decide +kernel
theorem dX6_meanTime_76 : decode cX6_meanTime 76 = .ok (.iload_n 1, 1) := by decide +kernel
theorem dX6_meanTime_77 : decode cX6_meanTime 77 = .ok (.i2d, 1) := by decide +kernel
theorem dX6_meanTime_78 : decode cX6_meanTime 78 = .ok (.aload_n 0, 1) := by decide +kernel
theorem dX6_meanTime_79 : decode cX6_meanTime 79 = .ok (.getfield 41, 3) := by decide +kernel
theorem dX6_meanTime_82 : decode cX6_meanTime 82 = .ok (.sipush 235, 3) := by decide +kernel
theorem dX6_meanTime_85 : decode cX6_meanTime 85 = .ok (.iaload, 1) := by decide +kernel
theorem dX6_meanTime_86 : decode cX6_meanTime 86 = .ok (.i2d, 1) := by decide +kernel
theorem dX6_meanTime_87 : decode cX6_meanTime 87 = .ok (.ddiv, 1) := by decide +kernel
theorem dX6_meanTime_88 : decode cX6_meanTime 88 = .ok (.goto 4, 3) := by decide +kernel
theorem dX6_meanTime_91 : decode cX6_meanTime 91 = .ok (.dconst 0, 1) := by decide +kernel
theorem dX6_meanTime_92 : decode cX6_meanTime 92 = .ok (.dreturn, 1) := by decide +kernel
theorem dJx00060_init_a7421_0 : decode cJx00060_init_a7421 0 = .ok (.aload_n 0, 1) := by decide +kernel
theorem dJx00060_init_a7421_1 : decode cJx00060_init_a7421 1 = .ok (.aload_n 1, 1) := by decide +kernel
theorem dJx00060_init_a7421_2 : decode cJx00060_init_a7421 2 = .ok (.invokespecial 7, 3) := by decide +kernel
theorem dJx00060_init_a7421_5 : decode cJx00060_init_a7421 5 = .ok (.return_, 1) := by decide +kernel
theorem dJ11_isValidCodePoint_9a6ad_0 : decode cJ11_isValidCodePoint_9a6ad 0 = .ok (.iload_n 0, 1) := by decide +kernel
theorem dJ11_isValidCodePoint_9a6ad_1 : decode cJ11_isValidCodePoint_9a6ad 1 = .ok (.bipush 16, 2) := by decide +kernel
theorem dJ11_isValidCodePoint_9a6ad_3 : decode cJ11_isValidCodePoint_9a6ad 3 = .ok (.iushr, 1) := by decide +kernel
theorem dJ11_isValidCodePoint_9a6ad_4 : decode cJ11_isValidCodePoint_9a6ad 4 = .ok (.istore_n 1, 1) := by decide +kernel
theorem dJ11_isValidCodePoint_9a6ad_5 : decode cJ11_isValidCodePoint_9a6ad 5 = .ok (.iload_n 1, 1) := by decide +kernel
theorem dJ11_isValidCodePoint_9a6ad_6 : decode cJ11_isValidCodePoint_9a6ad 6 = .ok (.bipush 17, 2) := by decide +kernel
theorem dJ11_isValidCodePoint_9a6ad_8 : decode cJ11_isValidCodePoint_9a6ad 8 = .ok (.if_icmp .ge 7, 3) := by decide +kernel
theorem dJ11_isValidCodePoint_9a6ad_11 : decode cJ11_isValidCodePoint_9a6ad 11 = .ok (.iconst 1, 1) := by decide +kernel
theorem dJ11_isValidCodePoint_9a6ad_12 : decode cJ11_isValidCodePoint_9a6ad 12 = .ok (.goto 4, 3) := by decide +kernel
theorem dJ11_isValidCodePoint_9a6ad_15 : decode cJ11_isValidCodePoint_9a6ad 15 = .ok (.iconst 0, 1) := by decide +kernel
theorem dJ11_isValidCodePoint_9a6ad_16 : decode cJ11_isValidCodePoint_9a6ad 16 = .ok (.ireturn, 1) := by decide +kernel
theorem dJ11_highSurrogate_5068e_0 : decode cJ11_highSurrogate_5068e 0 = .ok (.iload_n 0, 1) := by decide +kernel
theorem dJ11_highSurrogate_5068e_1 : decode cJ11_highSurrogate_5068e 1 = .ok (.bipush 10, 2) := by decide +kernel
theorem dJ11_highSurrogate_5068e_3 : decode cJ11_highSurrogate_5068e 3 = .ok (.iushr, 1) := by decide +kernel
theorem dJ11_highSurrogate_5068e_4 : decode cJ11_highSurrogate_5068e 4 = .ok (.ldc 110, 2) := by decide +kernel
theorem dJ11_highSurrogate_5068e_6 : decode cJ11_highSurrogate_5068e 6 = .ok (.iadd, 1) := by decide +kernel
theorem dJ11_highSurrogate_5068e_7 : decode cJ11_highSurrogate_5068e 7 = .ok (.i2c, 1) := by decide +kernel
theorem dJ11_highSurrogate_5068e_8 : decode cJ11_highSurrogate_5068e 8 = .ok (.ireturn, 1) := by decide +kernel
theorem dJ11_lowSurrogate_5068e_0 : decode cJ11_lowSurrogate_5068e 0 = .ok (.iload_n 0, 1) := by decide +kernel
theorem dJ11_lowSurrogate_5068e_1 : decode cJ11_lowSurrogate_5068e 1 = .ok (.sipush 1023, 3) := by decide +kernel
theorem dJ11_lowSurrogate_5068e_4 : decode cJ11_lowSurrogate_5068e 4 = .ok (.iand, 1) := by decide +kernel
theorem dJ11_lowSurrogate_5068e_5 : decode cJ11_lowSurrogate_5068e 5 = .ok (.ldc 76, 2) := by decide +kernel
theorem dJ11_lowSurrogate_5068e_7 : decode cJ11_lowSurrogate_5068e 7 = .ok (.iadd, 1) := by decide +kernel
theorem dJ11_lowSurrogate_5068e_8 : decode cJ11_lowSurrogate_5068e 8 = .ok (.i2c, 1) := by decide +kernel
theorem dJ11_lowSurrogate_5068e_9 : decode cJ11_lowSurrogate_5068e 9 = .ok (.ireturn, 1) := by decide +kernel
theorem dJ6_bitCount_0f7a4_0 : decode cJ6_bitCount_0f7a4 0 = .ok (.iload_n 0, 1) := by decide +kernel
theorem dJ6_bitCount_0f7a4_1 : decode cJ6_bitCount_0f7a4 1 = .ok (.iload_n 0, 1) := by decide +kernel
theorem dJ6_bitCount_0f7a4_2 : decode cJ6_bitCount_0f7a4 2 = .ok (.iconst 1, 1) := by decide +kernel
theorem dJ6_bitCount_0f7a4_3 : decode cJ6_bitCount_0f7a4 3 = .ok (.iushr, 1) := by decide +kernel
theorem dJ6_bitCount_0f7a4_4 : decode cJ6_bitCount_0f7a4 4 = .ok (.ldc_w 265, 3) := by decide +kernel
theorem dJ6_bitCount_0f7a4_7 : decode cJ6_bitCount_0f7a4 7 = .ok (.iand, 1) := by decide +kernel
theorem dJ6_bitCount_0f7a4_8 : decode cJ6_bitCount_0f7a4 8 = .ok (.isub, 1) := by decide +kernel
theorem dJ6_bitCount_0f7a4_9 : decode cJ6_bitCount_0f7a4 9 = .ok (.istore_n 0, 1) := by decide +kernel
theorem dJ6_bitCount_0f7a4_10 : decode cJ6_bitCount_0f7a4 10 = .ok (.iload_n 0, 1) := by decide +kernel
theorem dJ6_bitCount_0f7a4_11 : decode cJ6_bitCount_0f7a4 11 = .ok (.ldc_w 266, 3) := by decide +kernel
theorem dJ6_bitCount_0f7a4_14 : decode cJ6_bitCount_0f7a4 14 = .ok (.iand, 1) := by decide +kernel
theorem dJ6_bitCount_0f7a4_15 : decode cJ6_bitCount_0f7a4 15 = .ok (.iload_n 0, 1) := by decide +kernel
theorem dJ6_bitCount_0f7a4_16 : decode cJ6_bitCount_0f7a4 16 = .ok (.iconst 2, 1) := by decide +kernel
theorem dJ6_bitCount_0f7a4_17 : decode cJ6_bitCount_0f7a4 17 = .ok (.iushr, 1) := by decide +kernel
theorem dJ6_bitCount_0f7a4_18 : decode cJ6_bitCount_0f7a4 18 = .ok (.ldc_w 266, 3) := by decide +kernel
theorem dJ6_bitCount_0f7a4_21 : decode cJ6_bitCount_0f7a4 21 = .ok (.iand, 1) := by decide +kernel
theorem dJ6_bitCount_0f7a4_22 : decode cJ6_bitCount_0f7a4 22 = .ok (.iadd, 1) := by decide +kernel
theorem dJ6_bitCount_0f7a4_23 : decode cJ6_bitCount_0f7a4 23 = .ok (.istore_n 0, 1) := by decide +kernel
theorem dJ6_bitCount_0f7a4_24 : decode cJ6_bitCount_0f7a4 24 = .ok (.iload_n 0, 1) := by decide +kernel
theorem dJ6_bitCount_0f7a4_25 : decode cJ6_bitCount_0f7a4 25 = .ok (.iload_n 0, 1) := by decide +kernel
theorem dJ6_bitCount_0f7a4_26 : decode cJ6_bitCount_0f7a4 26 = .ok (.iconst 4, 1) := by decide +kernel
theorem dJ6_bitCount_0f7a4_27 : decode cJ6_bitCount_0f7a4 27 = .ok (.iushr, 1) := by decide +kernel
theorem dJ6_bitCount_0f7a4_28 : decode cJ6_bitCount_0f7a4 28 = .ok (.iadd, 1) := by decide +kernel
theorem dJ6_bitCount_0f7a4_29 : decode cJ6_bitCount_0f7a4 29 = .ok (.ldc_w 267, 3) := by decide +kernel
theorem dJ6_bitCount_0f7a4_32 : decode cJ6_bitCount_0f7a4 32 = .ok (.iand, 1) := by decide +kernel
theorem dJ6_bitCount_0f7a4_33 : decode cJ6_bitCount_0f7a4 33 = .ok (.istore_n 0, 1) := by decide +kernel
theorem dJ6_bitCount_0f7a4_34 : decode cJ6_bitCount_0f7a4 34 = .ok (.iload_n 0, 1) := by decide +kernel
theorem dJ6_bitCount_0f7a4_35 : decode cJ6_bitCount_0f7a4 35 = .ok (.iload_n 0, 1) := by decide +kernel
theorem dJ6_bitCount_0f7a4_36 : decode cJ6_bitCount_0f7a4 36 = .ok (.bipush 8, 2) := by decide +kernel
theorem dJ6_bitCount_0f7a4_38 : decode cJ6_bitCount_0f7a4 38 = .ok (.iushr, 1) := by decide +kernel
theorem dJ6_bitCount_0f7a4_39 : decode cJ6_bitCount_0f7a4 39 = .ok (.iadd, 1) := by decide +kernel
theorem dJ6_bitCount_0f7a4_40 : decode cJ6_bitCount_0f7a4 40 = .ok (.istore_n 0, 1) := by decide +kernel
theorem dJ6_bitCount_0f7a4_41 : decode cJ6_bitCount_0f7a4 41 = .ok (.iload_n 0, 1) := by decide +kernel
theorem dJ6_bitCount_0f7a4_42 : decode cJ6_bitCount_0f7a4 42 = .ok (.iload_n 0, 1) := by decide +kernel
theorem dJ6_bitCount_0f7a4_43 : decode cJ6_bitCount_0f7a4 43 = .ok (.bipush 16, 2) := by decide +kernel
theorem dJ6_bitCount_0f7a4_45 : decode cJ6_bitCount_0f7a4 45 = .ok (.iushr, 1) := by decide +kernel
theorem dJ6_bitCount_0f7a4_46 : decode cJ6_bitCount_0f7a4 46 = .ok (.iadd, 1) := by decide +kernel
theorem dJ6_bitCount_0f7a4_47 : decode cJ6_bitCount_0f7a4 47 = .ok (.istore_n 0, 1) := by decide +kernel
theorem dJ6_bitCount_0f7a4_48 : decode cJ6_bitCount_0f7a4 48 = .ok (.iload_n 0, 1) := by decide +kernel
theorem dJ6_bitCount_0f7a4_49 : decode cJ6_bitCount_0f7a4 49 = .ok (.bipush 63, 2) := by decide +kernel
theorem dJ6_bitCount_0f7a4_51 : decode cJ6_bitCount_0f7a4 51 = .ok (.iand, 1) := by decide +kernel
theorem dJ6_bitCount_0f7a4_52 : decode cJ6_bitCount_0f7a4 52 = .ok (.ireturn, 1) := by decide +kernel
theorem dJ9_max_7cf53_0 : decode cJ9_max_7cf53 0 = .ok (.iload_n 0, 1) := by decide +kernel
theorem dJ9_max_7cf53_1 : decode cJ9_max_7cf53 1 = .ok (.iload_n 1, 1) := by decide +kernel
theorem dJ9_max_7cf53_2 : decode cJ9_max_7cf53 2 = .ok (.if_icmp .lt 7, 3) := by decide +kernel
theorem dJ9_max_7cf53_5 : decode cJ9_max_7cf53 5 = .ok (.iload_n 0, 1) := by decide +kernel
theorem dJ9_max_7cf53_6 : decode cJ9_max_7cf53 6 = .ok (.goto 4, 3) := by decide +kernel
theorem dJ9_max_7cf53_9 : decode cJ9_max_7cf53 9 = .ok (.iload_n 1, 1) := by decide +kernel
theorem dJ9_max_7cf53_10 : decode cJ9_max_7cf53 10 = .ok (.ireturn, 1) := by decide +kernel
theorem dJ9_min_7cf53_0 : decode cJ9_min_7cf53 0 = .ok (.iload_n 0, 1) := by decide +kernel
theorem dJ9_min_7cf53_1 : decode cJ9_min_7cf53 1 = .ok (.iload_n 1, 1) := by decide +kernel
theorem dJ9_min_7cf53_2 : decode cJ9_min_7cf53 2 = .ok (.if_icmp .gt 7, 3) := by decide +kernel
theorem dJ9_min_7cf53_5 : decode cJ9_min_7cf53 5 = .ok (.iload_n 0, 1) := by decide +kernel
theorem dJ9_min_7cf53_6 : decode cJ9_min_7cf53 6 = .ok (.goto 4, 3) := by decide +kernel
theorem dJ9_min_7cf53_9 : decode cJ9_min_7cf53 9 = .ok (.iload_n 1, 1) := by decide +kernel
theorem dJ9_min_7cf53_10 : decode cJ9_min_7cf53 10 = .ok (.ireturn, 1) := by decide +kernel
theorem dJ0_length_8abf5_0 : decode cJ0_length_8abf5 0 = .ok (.aload_n 0, 1) := by decide +kernel
theorem dJ0_length_8abf5_1 : decode cJ0_length_8abf5 1 = .ok (.getfield 9, 3) := by decide +kernel
theorem dJ0_length_8abf5_4 : decode cJ0_length_8abf5 4 = .ok (.arraylength, 1) := by decide +kernel
theorem dJ0_length_8abf5_5 : decode cJ0_length_8abf5 5 = .ok (.aload_n 0, 1) := by decide +kernel
theorem dJ0_length_8abf5_6 : decode cJ0_length_8abf5 6 = .ok (.invokevirtual 335, 3) := by decide +kernel
theorem dJ0_length_8abf5_9 : decode cJ0_length_8abf5 9 = .ok (.ishr, 1) := by decide +kernel
theorem dJ0_length_8abf5_10 : decode cJ0_length_8abf5 10 = .ok (.ireturn, 1) := by decide +kernel
theorem dJ0_indexOf_0f7a4_0 : decode cJ0_indexOf_0f7a4 0 = .ok (.aload_n 0, 1) := by decide +kernel
theorem dJ0_indexOf_0f7a4_1 : decode cJ0_indexOf_0f7a4 1 = .ok (.iload_n 1, 1) := by decide +kernel
theorem dJ0_indexOf_0f7a4_2 : decode cJ0_indexOf_0f7a4 2 = .ok (.iconst 0, 1) := by decide +kernel
theorem dJ0_indexOf_0f7a4_3 : decode cJ0_indexOf_0f7a4 3 = .ok (.invokevirtual 633, 3) := by decide +kernel
theorem dJ0_indexOf_0f7a4_6 : decode cJ0_indexOf_0f7a4 6 = .ok (.ireturn, 1) := by decide +kernel
theorem dJ0_indexOf_7cf53_0 : decode cJ0_indexOf_7cf53 0 = .ok (.aload_n 0, 1) := by decide +kernel
theorem dJ0_indexOf_7cf53_1 : decode cJ0_indexOf_7cf53 1 = .ok (.invokevirtual 492, 3) := by decide +kernel
theorem dJ0_indexOf_7cf53_4 : decode cJ0_indexOf_7cf53 4 = .ok (.ifCond .eq 19, 3) := by decide +kernel
theorem dJ0_indexOf_7cf53_7 : decode cJ0_indexOf_7cf53 7 = .ok (.aload_n 0, 1) := by decide +kernel
theorem dJ0_indexOf_7cf53_8 : decode cJ0_indexOf_7cf53 8 = .ok (.getfield 9, 3) := by decide +kernel
theorem dJ0_indexOf_7cf53_11 : decode cJ0_indexOf_7cf53 11 = .ok (.iload_n 1, 1) := by decide +kernel
theorem dJ0_indexOf_7cf53_12 : decode cJ0_indexOf_7cf53 12 = .ok (.iload_n 2, 1) := by decide +kernel
theorem dJ0_indexOf_7cf53_13 : decode cJ0_indexOf_7cf53 13 = .ok (.aload_n 0, 1) := by decide +kernel
theorem dJ0_indexOf_7cf53_14 : decode cJ0_indexOf_7cf53 14 = .ok (.invokevirtual 505, 3) := by decide +kernel
theorem dJ0_indexOf_7cf53_17 : decode cJ0_indexOf_7cf53 17 = .ok (.invokestatic 637, 3) := by decide +kernel
theorem dJ0_indexOf_7cf53_20 : decode cJ0_indexOf_7cf53 20 = .ok (.goto 16, 3) := by decide +kernel
theorem dJ0_indexOf_7cf53_23 : decode cJ0_indexOf_7cf53 23 = .ok (.aload_n 0, 1) := by decide +kernel
theorem dJ0_indexOf_7cf53_24 : decode cJ0_indexOf_7cf53 24 = .ok (.getfield 9, 3) := by decide +kernel
theorem dJ0_indexOf_7cf53_27 : decode cJ0_indexOf_7cf53 27 = .ok (.iload_n 1, 1) := by decide +kernel
theorem dJ0_indexOf_7cf53_28 : decode cJ0_indexOf_7cf53 28 = .ok (.iload_n 2, 1) := by decide +kernel
theorem dJ0_indexOf_7cf53_29 : decode cJ0_indexOf_7cf53 29 = .ok (.aload_n 0, 1) := by decide +kernel
theorem dJ0_indexOf_7cf53_30 : decode cJ0_indexOf_7cf53 30 = .ok (.invokevirtual 505, 3) := by decide +kernel
theorem dJ0_indexOf_7cf53_33 : decode cJ0_indexOf_7cf53 33 = .ok (.invokestatic 640, 3) := by decide +kernel
theorem dJ0_indexOf_7cf53_36 : decode cJ0_indexOf_7cf53 36 = .ok (.ireturn, 1) := by decide +kernel
theorem dJ0_coder_7d493_0 : decode cJ0_coder_7d493 0 = .ok (.getstatic 38, 3) := by decide +kernel
theorem dJ0_coder_7d493_3 : decode cJ0_coder_7d493 3 = .ok (.ifCond .eq 10, 3) := by decide +kernel
theorem dJ0_coder_7d493_6 : decode cJ0_coder_7d493 6 = .ok (.aload_n 0, 1) := by decide +kernel
theorem dJ0_coder_7d493_7 : decode cJ0_coder_7d493 7 = .ok (.getfield 15, 3) := by decide +kernel
theorem dJ0_coder_7d493_10 : decode cJ0_coder_7d493 10 = .ok (.goto 4, 3) := by decide +kernel
theorem dJ0_coder_7d493_13 : decode cJ0_coder_7d493 13 = .ok (.iconst 1, 1) := by decide +kernel
theorem dJ0_coder_7d493_14 : decode cJ0_coder_7d493 14 = .ok (.ireturn, 1) := by decide +kernel
theorem dJ0_isLatin1_aae02_0 : decode cJ0_isLatin1_aae02 0 = .ok (.getstatic 38, 3) := by decide +kernel
theorem dJ0_isLatin1_aae02_3 : decode cJ0_isLatin1_aae02 3 = .ok (.ifCond .eq 14, 3) := by decide +kernel
theorem dJ0_isLatin1_aae02_6 : decode cJ0_isLatin1_aae02 6 = .ok (.aload_n 0, 1) := by decide +kernel
theorem dJ0_isLatin1_aae02_7 : decode cJ0_isLatin1_aae02 7 = .ok (.getfield 15, 3) := by decide +kernel
theorem dJ0_isLatin1_aae02_10 : decode cJ0_isLatin1_aae02 10 = .ok (.ifCond .ne 7, 3) := by decide +kernel
theorem dJ0_isLatin1_aae02_13 : decode cJ0_isLatin1_aae02 13 = .ok (.iconst 1, 1) := by decide +kernel
theorem dJ0_isLatin1_aae02_14 : decode cJ0_isLatin1_aae02 14 = .ok (.goto 4, 3) := by decide +kernel
theorem dJ0_isLatin1_aae02_17 : decode cJ0_isLatin1_aae02 17 = .ok (.iconst 0, 1) := by decide +kernel
theorem dJ0_isLatin1_aae02_18 : decode cJ0_isLatin1_aae02 18 = .ok (.ireturn, 1) := by decide +kernel
theorem dJ0_checkBoundsBeginEnd_23922_0 : decode cJ0_checkBoundsBeginEnd_23922 0 = .ok (.iload_n 0, 1) := by decide +kernel
theorem dJ0_checkBoundsBeginEnd_23922_1 : decode cJ0_checkBoundsBeginEnd_23922 1 = .ok (.iload_n 1, 1) := by decide +kernel
theorem dJ0_checkBoundsBeginEnd_23922_2 : decode cJ0_checkBoundsBeginEnd_23922 2 = .ok (.iload_n 2, 1) := by decide +kernel
theorem dJ0_checkBoundsBeginEnd_23922_3 : decode cJ0_checkBoundsBeginEnd_23922 3 = .ok (.getstatic 1053, 3) := by decide +kernel
theorem dJ0_checkBoundsBeginEnd_23922_6 : decode cJ0_checkBoundsBeginEnd_23922 6 = .ok (.invokestatic 1062, 3) := by decide +kernel
theorem dJ0_checkBoundsBeginEnd_23922_9 : decode cJ0_checkBoundsBeginEnd_23922 9 = .ok (.pop, 1) := by decide +kernel
theorem dJ0_checkBoundsBeginEnd_23922_10 : decode cJ0_checkBoundsBeginEnd_23922 10 = .ok (.return_, 1) := by decide +kernel
theorem dJ1_canEncode_9a6ad_0 : decode cJ1_canEncode_9a6ad 0 = .ok (.iload_n 0, 1) := by decide +kernel
theorem dJ1_canEncode_9a6ad_1 : decode cJ1_canEncode_9a6ad 1 = .ok (.ifCond .lt 14, 3) := by decide +kernel
theorem dJ1_canEncode_9a6ad_4 : decode cJ1_canEncode_9a6ad 4 = .ok (.iload_n 0, 1) := by decide +kernel
theorem dJ1_canEncode_9a6ad_5 : decode cJ1_canEncode_9a6ad 5 = .ok (.sipush 255, 3) := by decide +kernel
theorem dJ1_canEncode_9a6ad_8 : decode cJ1_canEncode_9a6ad 8 = .ok (.if_icmp .gt 7, 3) := by decide +kernel
theorem dJ1_canEncode_9a6ad_11 : decode cJ1_canEncode_9a6ad 11 = .ok (.iconst 1, 1) := by decide +kernel
theorem dJ1_canEncode_9a6ad_12 : decode cJ1_canEncode_9a6ad 12 = .ok (.goto 4, 3) := by decide +kernel
theorem dJ1_canEncode_9a6ad_15 : decode cJ1_canEncode_9a6ad 15 = .ok (.iconst 0, 1) := by decide +kernel
theorem dJ1_canEncode_9a6ad_16 : decode cJ1_canEncode_9a6ad 16 = .ok (.ireturn, 1) := by decide +kernel
theorem dJ1_indexOf_4cfef_0 : decode cJ1_indexOf_4cfef 0 = .ok (.iload_n 1, 1) := by decide +kernel
theorem dJ1_indexOf_4cfef_1 : decode cJ1_indexOf_4cfef 1 = .ok (.invokestatic 88, 3) := by decide +kernel
theorem dJ1_indexOf_4cfef_4 : decode cJ1_indexOf_4cfef 4 = .ok (.ifCond .ne 5, 3) := by decide +kernel
theorem dJ1_indexOf_4cfef_7 : decode cJ1_indexOf_4cfef 7 = .ok (.iconst (-1), 1) := by decide +kernel
theorem dJ1_indexOf_4cfef_8 : decode cJ1_indexOf_4cfef 8 = .ok (.ireturn, 1) := by decide +kernel
theorem dJ1_indexOf_4cfef_9 : decode cJ1_indexOf_4cfef 9 = .ok (.iload_n 2, 1) := by decide +kernel
theorem dJ1_indexOf_4cfef_10 : decode cJ1_indexOf_4cfef 10 = .ok (.iconst 0, 1) := by decide +kernel
theorem dJ1_indexOf_4cfef_11 : decode cJ1_indexOf_4cfef 11 = .ok (.invokestatic 92, 3) := by decide +kernel
theorem dJ1_indexOf_4cfef_14 : decode cJ1_indexOf_4cfef 14 = .ok (.istore_n 2, 1) := by decide +kernel
theorem dJ1_indexOf_4cfef_15 : decode cJ1_indexOf_4cfef 15 = .ok (.iload_n 3, 1) := by decide +kernel
theorem dJ1_indexOf_4cfef_16 : decode cJ1_indexOf_4cfef 16 = .ok (.aload_n 0, 1) := by decide +kernel
theorem dJ1_indexOf_4cfef_17 : decode cJ1_indexOf_4cfef 17 = .ok (.arraylength, 1) := by decide +kernel
theorem dJ1_indexOf_4cfef_18 : decode cJ1_indexOf_4cfef 18 = .ok (.invokestatic 38, 3) := by decide +kernel
theorem dJ1_indexOf_4cfef_21 : decode cJ1_indexOf_4cfef 21 = .ok (.istore_n 3, 1) := by decide +kernel
theorem dJ1_indexOf_4cfef_22 : decode cJ1_indexOf_4cfef 22 = .ok (.iload_n 2, 1) := by decide +kernel
theorem dJ1_indexOf_4cfef_23 : decode cJ1_indexOf_4cfef 23 = .ok (.iload_n 3, 1) := by decide +kernel
theorem dJ1_indexOf_4cfef_24 : decode cJ1_indexOf_4cfef 24 = .ok (.if_icmp .lt 5, 3) := by decide +kernel
theorem dJ1_indexOf_4cfef_27 : decode cJ1_indexOf_4cfef 27 = .ok (.iconst (-1), 1) := by decide +kernel
theorem dJ1_indexOf_4cfef_28 : decode cJ1_indexOf_4cfef 28 = .ok (.ireturn, 1) := by decide +kernel
theorem dJ1_indexOf_4cfef_29 : decode cJ1_indexOf_4cfef 29 = .ok (.aload_n 0, 1) := by decide +kernel
theorem dJ1_indexOf_4cfef_30 : decode cJ1_indexOf_4cfef 30 = .ok (.iload_n 1, 1) := by decide +kernel
theorem dJ1_indexOf_4cfef_31 : decode cJ1_indexOf_4cfef 31 = .ok (.iload_n 2, 1) := by decide +kernel
theorem dJ1_indexOf_4cfef_32 : decode cJ1_indexOf_4cfef 32 = .ok (.iload_n 3, 1) := by decide +kernel
theorem dJ1_indexOf_4cfef_33 : decode cJ1_indexOf_4cfef 33 = .ok (.invokestatic 95, 3) := by decide +kernel
theorem dJ1_indexOf_4cfef_36 : decode cJ1_indexOf_4cfef 36 = .ok (.ireturn, 1) := by decide +kernel
theorem dJ1_indexOfChar_4cfef_0 : decode cJ1_indexOfChar_4cfef 0 = .ok (.iload_n 1, 1) := by decide +kernel
theorem dJ1_indexOfChar_4cfef_1 : decode cJ1_indexOfChar_4cfef 1 = .ok (.i2b, 1) := by decide +kernel
theorem dJ1_indexOfChar_4cfef_2 : decode cJ1_indexOfChar_4cfef 2 = .ok (.istore 4, 2) := by decide +kernel
theorem dJ1_indexOfChar_4cfef_4 : decode cJ1_indexOfChar_4cfef 4 = .ok (.iload_n 2, 1) := by decide +kernel
theorem dJ1_indexOfChar_4cfef_5 : decode cJ1_indexOfChar_4cfef 5 = .ok (.istore 5, 2) := by decide +kernel
theorem dJ1_indexOfChar_4cfef_7 : decode cJ1_indexOfChar_4cfef 7 = .ok (.iload 5, 2) := by decide +kernel
theorem dJ1_indexOfChar_4cfef_9 : decode cJ1_indexOfChar_4cfef 9 = .ok (.iload_n 3, 1) := by decide +kernel
theorem dJ1_indexOfChar_4cfef_10 : decode cJ1_indexOfChar_4cfef 10 = .ok (.if_icmp .ge 21, 3) := by decide +kernel
theorem dJ1_indexOfChar_4cfef_13 : decode cJ1_indexOfChar_4cfef 13 = .ok (.aload_n 0, 1) := by decide +kernel
theorem dJ1_indexOfChar_4cfef_14 : decode cJ1_indexOfChar_4cfef 14 = .ok (.iload 5, 2) := by decide +kernel
theorem dJ1_indexOfChar_4cfef_16 : decode cJ1_indexOfChar_4cfef 16 = .ok (.baload, 1) := by decide +kernel
theorem dJ1_indexOfChar_4cfef_17 : decode cJ1_indexOfChar_4cfef 17 = .ok (.iload 4, 2) := by decide +kernel
theorem dJ1_indexOfChar_4cfef_19 : decode cJ1_indexOfChar_4cfef 19 = .ok (.if_icmp .ne 6, 3) := by decide +kernel
theorem dJ1_indexOfChar_4cfef_22 : decode cJ1_indexOfChar_4cfef 22 = .ok (.iload 5, 2) := by decide +kernel
theorem dJ1_indexOfChar_4cfef_24 : decode cJ1_indexOfChar_4cfef 24 = .ok (.ireturn, 1) := by decide +kernel
theorem dJ1_indexOfChar_4cfef_25 : decode cJ1_indexOfChar_4cfef 25 = .ok (.iinc 5 1, 3) := by decide +kernel
theorem dJ1_indexOfChar_4cfef_28 : decode cJ1_indexOfChar_4cfef 28 = .ok (.goto (-21), 3) := by decide +kernel
theorem dJ1_indexOfChar_4cfef_31 : decode cJ1_indexOfChar_4cfef 31 = .ok (.iconst (-1), 1) := by decide +kernel
theorem dJ1_indexOfChar_4cfef_32 : decode cJ1_indexOfChar_4cfef 32 = .ok (.ireturn, 1) := by decide +kernel
theorem dJ2_getChar_3b067_0 : decode cJ2_getChar_3b067 0 = .ok (.getstatic 44, 3) := by decide +kernel
theorem dJ2_getChar_3b067_3 : decode cJ2_getChar_3b067 3 = .ok (.ifCond .ne 25, 3) := by decide +kernel
theorem dJ2_getChar_3b067_6 : decode cJ2_getChar_3b067 6 = .ok (.iload_n 1, 1) := by decide +kernel
theorem dJ2_getChar_3b067_7 : decode cJ2_getChar_3b067 7 = .ok (.ifCond .lt 11, 3) := by decide +kernel
theorem dJ2_getChar_3b067_10 : decode cJ2_getChar_3b067 10 = .ok (.iload_n 1, 1) := by decide +kernel
theorem dJ2_getChar_3b067_11 : decode cJ2_getChar_3b067 11 = .ok (.aload_n 0, 1) := by decide +kernel
theorem dJ2_getChar_3b067_12 : decode cJ2_getChar_3b067 12 = .ok (.invokestatic 48, 3) := by decide +kernel
theorem dJ2_getChar_3b067_15 : decode cJ2_getChar_3b067 15 = .ok (.if_icmp .lt 13, 3) := by decide +kernel
theorem dJ2_getChar_3b067_18 : decode cJ2_getChar_3b067 18 = .ok (.new 52, 3) := by decide +kernel
theorem dJ2_getChar_3b067_21 : decode cJ2_getChar_3b067 21 = .ok (.dup, 1) := by decide +kernel
theorem dJ2_getChar_3b067_22 : decode cJ2_getChar_3b067 22 = .ok (.ldc 54, 2) := by decide +kernel
theorem dJ2_getChar_3b067_24 : decode cJ2_getChar_3b067 24 = .ok (.invokespecial 56, 3) := by decide +kernel
theorem dJ2_getChar_3b067_27 : decode cJ2_getChar_3b067 27 = .ok (.athrow, 1) := by decide +kernel
theorem dJ2_getChar_3b067_28 : decode cJ2_getChar_3b067 28 = .ok (.iload_n 1, 1) := by decide +kernel
theorem dJ2_getChar_3b067_29 : decode cJ2_getChar_3b067 29 = .ok (.iconst 1, 1) := by decide +kernel
theorem dJ2_getChar_3b067_30 : decode cJ2_getChar_3b067 30 = .ok (.ishl, 1) := by decide +kernel
theorem dJ2_getChar_3b067_31 : decode cJ2_getChar_3b067 31 = .ok (.istore_n 1, 1) := by decide +kernel
theorem dJ2_getChar_3b067_32 : decode cJ2_getChar_3b067 32 = .ok (.aload_n 0, 1) := by decide +kernel
theorem dJ2_getChar_3b067_33 : decode cJ2_getChar_3b067 33 = .ok (.iload_n 1, 1) := by decide +kernel
theorem dJ2_getChar_3b067_34 : decode cJ2_getChar_3b067 34 = .ok (.iinc 1 1, 3) := by decide +kernel
theorem dJ2_getChar_3b067_37 : decode cJ2_getChar_3b067 37 = .ok (.baload, 1) := by decide +kernel
theorem dJ2_getChar_3b067_38 : decode cJ2_getChar_3b067 38 = .ok (.sipush 255, 3) := by decide +kernel
theorem dJ2_getChar_3b067_41 : decode cJ2_getChar_3b067 41 = .ok (.iand, 1) := by decide +kernel
theorem dJ2_getChar_3b067_42 : decode cJ2_getChar_3b067 42 = .ok (.getstatic 59, 3) := by decide +kernel
theorem dJ2_getChar_3b067_45 : decode cJ2_getChar_3b067 45 = .ok (.ishl, 1) := by decide +kernel
theorem dJ2_getChar_3b067_46 : decode cJ2_getChar_3b067 46 = .ok (.aload_n 0, 1) := by decide +kernel
theorem dJ2_getChar_3b067_47 : decode cJ2_getChar_3b067 47 = .ok (.iload_n 1, 1) := by decide +kernel
theorem dJ2_getChar_3b067_48 : decode cJ2_getChar_3b067 48 = .ok (.baload, 1) := by decide +kernel
theorem dJ2_getChar_3b067_49 : decode cJ2_getChar_3b067 49 = .ok (.sipush 255, 3) := by decide +kernel
theorem dJ2_getChar_3b067_52 : decode cJ2_getChar_3b067 52 = .ok (.iand, 1) := by decide +kernel
theorem dJ2_getChar_3b067_53 : decode cJ2_getChar_3b067 53 = .ok (.getstatic 63, 3) := by decide +kernel
theorem dJ2_getChar_3b067_56 : decode cJ2_getChar_3b067 56 = .ok (.ishl, 1) := by decide +kernel
theorem dJ2_getChar_3b067_57 : decode cJ2_getChar_3b067 57 = .ok (.ior, 1) := by decide +kernel
theorem dJ2_getChar_3b067_58 : decode cJ2_getChar_3b067 58 = .ok (.i2c, 1) := by decide +kernel
theorem dJ2_getChar_3b067_59 : decode cJ2_getChar_3b067 59 = .ok (.ireturn, 1) := by decide +kernel
theorem dJ2_length_9d52b_0 : decode cJ2_length_9d52b 0 = .ok (.aload_n 0, 1) := by decide +kernel
theorem dJ2_length_9d52b_1 : decode cJ2_length_9d52b 1 = .ok (.arraylength, 1) := by decide +kernel
theorem dJ2_length_9d52b_2 : decode cJ2_length_9d52b 2 = .ok (.iconst 1, 1) := by decide +kernel
theorem dJ2_length_9d52b_3 : decode cJ2_length_9d52b 3 = .ok (.ishr, 1) := by decide +kernel
theorem dJ2_length_9d52b_4 : decode cJ2_length_9d52b 4 = .ok (.ireturn, 1) := by decide +kernel
theorem dJ2_indexOf_4cfef_0 : decode cJ2_indexOf_4cfef 0 = .ok (.iload_n 2, 1) := by decide +kernel
theorem dJ2_indexOf_4cfef_1 : decode cJ2_indexOf_4cfef 1 = .ok (.iconst 0, 1) := by decide +kernel
theorem dJ2_indexOf_4cfef_2 : decode cJ2_indexOf_4cfef 2 = .ok (.invokestatic 224, 3) := by decide +kernel
theorem dJ2_indexOf_4cfef_5 : decode cJ2_indexOf_4cfef 5 = .ok (.istore_n 2, 1) := by decide +kernel
theorem dJ2_indexOf_4cfef_6 : decode cJ2_indexOf_4cfef 6 = .ok (.iload_n 3, 1) := by decide +kernel
theorem dJ2_indexOf_4cfef_7 : decode cJ2_indexOf_4cfef 7 = .ok (.aload_n 0, 1) := by decide +kernel
theorem dJ2_indexOf_4cfef_8 : decode cJ2_indexOf_4cfef 8 = .ok (.arraylength, 1) := by decide +kernel
theorem dJ2_indexOf_4cfef_9 : decode cJ2_indexOf_4cfef 9 = .ok (.iconst 1, 1) := by decide +kernel
theorem dJ2_indexOf_4cfef_10 : decode cJ2_indexOf_4cfef 10 = .ok (.ishr, 1) := by decide +kernel
theorem dJ2_indexOf_4cfef_11 : decode cJ2_indexOf_4cfef 11 = .ok (.invokestatic 183, 3) := by decide +kernel
theorem dJ2_indexOf_4cfef_14 : decode cJ2_indexOf_4cfef 14 = .ok (.istore_n 3, 1) := by decide +kernel
theorem dJ2_indexOf_4cfef_15 : decode cJ2_indexOf_4cfef 15 = .ok (.iload_n 2, 1) := by decide +kernel
theorem dJ2_indexOf_4cfef_16 : decode cJ2_indexOf_4cfef 16 = .ok (.iload_n 3, 1) := by decide +kernel
theorem dJ2_indexOf_4cfef_17 : decode cJ2_indexOf_4cfef 17 = .ok (.if_icmp .lt 5, 3) := by decide +kernel
theorem dJ2_indexOf_4cfef_20 : decode cJ2_indexOf_4cfef 20 = .ok (.iconst (-1), 1) := by decide +kernel
theorem dJ2_indexOf_4cfef_21 : decode cJ2_indexOf_4cfef 21 = .ok (.ireturn, 1) := by decide +kernel
theorem dJ2_indexOf_4cfef_22 : decode cJ2_indexOf_4cfef 22 = .ok (.iload_n 1, 1) := by decide +kernel
theorem dJ2_indexOf_4cfef_23 : decode cJ2_indexOf_4cfef 23 = .ok (.ldc 227, 2) := by decide +kernel
theorem dJ2_indexOf_4cfef_25 : decode cJ2_indexOf_4cfef 25 = .ok (.if_icmp .ge 11, 3) := by decide +kernel
theorem dJ2_indexOf_4cfef_28 : decode cJ2_indexOf_4cfef 28 = .ok (.aload_n 0, 1) := by decide +kernel
theorem dJ2_indexOf_4cfef_29 : decode cJ2_indexOf_4cfef 29 = .ok (.iload_n 1, 1) := by decide +kernel
theorem dJ2_indexOf_4cfef_30 : decode cJ2_indexOf_4cfef 30 = .ok (.iload_n 2, 1) := by decide +kernel
theorem dJ2_indexOf_4cfef_31 : decode cJ2_indexOf_4cfef 31 = .ok (.iload_n 3, 1) := by decide +kernel
theorem dJ2_indexOf_4cfef_32 : decode cJ2_indexOf_4cfef 32 = .ok (.invokestatic 228, 3) := by decide +kernel
theorem dJ2_indexOf_4cfef_35 : decode cJ2_indexOf_4cfef 35 = .ok (.ireturn, 1) := by decide +kernel
theorem dJ2_indexOf_4cfef_36 : decode cJ2_indexOf_4cfef 36 = .ok (.aload_n 0, 1) := by decide +kernel
theorem dJ2_indexOf_4cfef_37 : decode cJ2_indexOf_4cfef 37 = .ok (.iload_n 1, 1) := by decide +kernel
theorem dJ2_indexOf_4cfef_38 : decode cJ2_indexOf_4cfef 38 = .ok (.iload_n 2, 1) := by decide +kernel
theorem dJ2_indexOf_4cfef_39 : decode cJ2_indexOf_4cfef 39 = .ok (.iload_n 3, 1) := by decide +kernel
theorem dJ2_indexOf_4cfef_40 : decode cJ2_indexOf_4cfef 40 = .ok (.invokestatic 232, 3) := by decide +kernel
theorem dJ2_indexOf_4cfef_43 : decode cJ2_indexOf_4cfef 43 = .ok (.ireturn, 1) := by decide +kernel
theorem dJ2_indexOfChar_4cfef_0 : decode cJ2_indexOfChar_4cfef 0 = .ok (.iload_n 2, 1) := by decide +kernel
theorem dJ2_indexOfChar_4cfef_1 : decode cJ2_indexOfChar_4cfef 1 = .ok (.iload_n 3, 1) := by decide +kernel
theorem dJ2_indexOfChar_4cfef_2 : decode cJ2_indexOfChar_4cfef 2 = .ok (.aload_n 0, 1) := by decide +kernel
theorem dJ2_indexOfChar_4cfef_3 : decode cJ2_indexOfChar_4cfef 3 = .ok (.invokestatic 96, 3) := by decide +kernel
theorem dJ2_indexOfChar_4cfef_6 : decode cJ2_indexOfChar_4cfef 6 = .ok (.aload_n 0, 1) := by decide +kernel
theorem dJ2_indexOfChar_4cfef_7 : decode cJ2_indexOfChar_4cfef 7 = .ok (.iload_n 1, 1) := by decide +kernel
theorem dJ2_indexOfChar_4cfef_8 : decode cJ2_indexOfChar_4cfef 8 = .ok (.iload_n 2, 1) := by decide +kernel
theorem dJ2_indexOfChar_4cfef_9 : decode cJ2_indexOfChar_4cfef 9 = .ok (.iload_n 3, 1) := by decide +kernel
theorem dJ2_indexOfChar_4cfef_10 : decode cJ2_indexOfChar_4cfef 10 = .ok (.invokestatic 244, 3) := by decide +kernel
theorem dJ2_indexOfChar_4cfef_13 : decode cJ2_indexOfChar_4cfef 13 = .ok (.ireturn, 1) := by decide +kernel
theorem dJ2_indexOfCharUnsafe_4cfef_0 : decode cJ2_indexOfCharUnsafe_4cfef 0 = .ok (.iload_n 2, 1) := by decide +kernel
theorem dJ2_indexOfCharUnsafe_4cfef_1 : decode cJ2_indexOfCharUnsafe_4cfef 1 = .ok (.istore 4, 2) := by decide +kernel
theorem dJ2_indexOfCharUnsafe_4cfef_3 : decode cJ2_indexOfCharUnsafe_4cfef 3 = .ok (.iload 4, 2) := by decide +kernel
theorem dJ2_indexOfCharUnsafe_4cfef_5 : decode cJ2_indexOfCharUnsafe_4cfef 5 = .ok (.iload_n 3, 1) := by decide +kernel
theorem dJ2_indexOfCharUnsafe_4cfef_6 : decode cJ2_indexOfCharUnsafe_4cfef 6 = .ok (.if_icmp .ge 22, 3) := by decide +kernel
theorem dJ2_indexOfCharUnsafe_4cfef_9 : decode cJ2_indexOfCharUnsafe_4cfef 9 = .ok (.aload_n 0, 1) := by decide +kernel
theorem dJ2_indexOfCharUnsafe_4cfef_10 : decode cJ2_indexOfCharUnsafe_4cfef 10 = .ok (.iload 4, 2) := by decide +kernel
theorem dJ2_indexOfCharUnsafe_4cfef_12 : decode cJ2_indexOfCharUnsafe_4cfef 12 = .ok (.invokestatic 71, 3) := by decide +kernel
theorem dJ2_indexOfCharUnsafe_4cfef_15 : decode cJ2_indexOfCharUnsafe_4cfef 15 = .ok (.iload_n 1, 1) := by decide +kernel
theorem dJ2_indexOfCharUnsafe_4cfef_16 : decode cJ2_indexOfCharUnsafe_4cfef 16 = .ok (.if_icmp .ne 6, 3) := by decide +kernel
theorem dJ2_indexOfCharUnsafe_4cfef_19 : decode cJ2_indexOfCharUnsafe_4cfef 19 = .ok (.iload 4, 2) := by decide +kernel
theorem dJ2_indexOfCharUnsafe_4cfef_21 : decode cJ2_indexOfCharUnsafe_4cfef 21 = .ok (.ireturn, 1) := by decide +kernel
theorem dJ2_indexOfCharUnsafe_4cfef_22 : decode cJ2_indexOfCharUnsafe_4cfef 22 = .ok (.iinc 4 1, 3) := by decide +kernel
theorem dJ2_indexOfCharUnsafe_4cfef_25 : decode cJ2_indexOfCharUnsafe_4cfef 25 = .ok (.goto (-22), 3) := by decide +kernel
theorem dJ2_indexOfCharUnsafe_4cfef_28 : decode cJ2_indexOfCharUnsafe_4cfef 28 = .ok (.iconst (-1), 1) := by decide +kernel
theorem dJ2_indexOfCharUnsafe_4cfef_29 : decode cJ2_indexOfCharUnsafe_4cfef 29 = .ok (.ireturn, 1) := by decide +kernel
theorem dJ2_indexOfSupplementary_4cfef_0 : decode cJ2_indexOfSupplementary_4cfef 0 = .ok (.iload_n 1, 1) := by decide +kernel
theorem dJ2_indexOfSupplementary_4cfef_1 : decode cJ2_indexOfSupplementary_4cfef 1 = .ok (.invokestatic 164, 3) := by decide +kernel
theorem dJ2_indexOfSupplementary_4cfef_4 : decode cJ2_indexOfSupplementary_4cfef 4 = .ok (.ifCond .eq 65, 3) := by decide +kernel
theorem dJ2_indexOfSupplementary_4cfef_7 : decode cJ2_indexOfSupplementary_4cfef 7 = .ok (.iload_n 1, 1) := by decide +kernel
theorem dJ2_indexOfSupplementary_4cfef_8 : decode cJ2_indexOfSupplementary_4cfef 8 = .ok (.invokestatic 157, 3) := by decide +kernel
theorem dJ2_indexOfSupplementary_4cfef_11 : decode cJ2_indexOfSupplementary_4cfef 11 = .ok (.istore 4, 2) := by decide +kernel
theorem dJ2_indexOfSupplementary_4cfef_13 : decode cJ2_indexOfSupplementary_4cfef 13 = .ok (.iload_n 1, 1) := by decide +kernel
theorem dJ2_indexOfSupplementary_4cfef_14 : decode cJ2_indexOfSupplementary_4cfef 14 = .ok (.invokestatic 161, 3) := by decide +kernel
theorem dJ2_indexOfSupplementary_4cfef_17 : decode cJ2_indexOfSupplementary_4cfef 17 = .ok (.istore 5, 2) := by decide +kernel
theorem dJ2_indexOfSupplementary_4cfef_19 : decode cJ2_indexOfSupplementary_4cfef 19 = .ok (.iload_n 2, 1) := by decide +kernel
theorem dJ2_indexOfSupplementary_4cfef_20 : decode cJ2_indexOfSupplementary_4cfef 20 = .ok (.iload_n 3, 1) := by decide +kernel
theorem dJ2_indexOfSupplementary_4cfef_21 : decode cJ2_indexOfSupplementary_4cfef 21 = .ok (.aload_n 0, 1) := by decide +kernel
theorem dJ2_indexOfSupplementary_4cfef_22 : decode cJ2_indexOfSupplementary_4cfef 22 = .ok (.invokestatic 96, 3) := by decide +kernel
theorem dJ2_indexOfSupplementary_4cfef_25 : decode cJ2_indexOfSupplementary_4cfef 25 = .ok (.iload_n 2, 1) := by decide +kernel
theorem dJ2_indexOfSupplementary_4cfef_26 : decode cJ2_indexOfSupplementary_4cfef 26 = .ok (.istore 6, 2) := by decide +kernel
theorem dJ2_indexOfSupplementary_4cfef_28 : decode cJ2_indexOfSupplementary_4cfef 28 = .ok (.iload 6, 2) := by decide +kernel
theorem dJ2_indexOfSupplementary_4cfef_30 : decode cJ2_indexOfSupplementary_4cfef 30 = .ok (.iload_n 3, 1) := by decide +kernel
theorem dJ2_indexOfSupplementary_4cfef_31 : decode cJ2_indexOfSupplementary_4cfef 31 = .ok (.iconst 1, 1) := by decide +kernel
theorem dJ2_indexOfSupplementary_4cfef_32 : decode cJ2_indexOfSupplementary_4cfef 32 = .ok (.isub, 1) := by decide +kernel
theorem dJ2_indexOfSupplementary_4cfef_33 : decode cJ2_indexOfSupplementary_4cfef 33 = .ok (.if_icmp .ge 36, 3) := by decide +kernel
theorem dJ2_indexOfSupplementary_4cfef_36 : decode cJ2_indexOfSupplementary_4cfef 36 = .ok (.aload_n 0, 1) := by decide +kernel
theorem dJ2_indexOfSupplementary_4cfef_37 : decode cJ2_indexOfSupplementary_4cfef 37 = .ok (.iload 6, 2) := by decide +kernel
theorem dJ2_indexOfSupplementary_4cfef_39 : decode cJ2_indexOfSupplementary_4cfef 39 = .ok (.invokestatic 71, 3) := by decide +kernel
theorem dJ2_indexOfSupplementary_4cfef_42 : decode cJ2_indexOfSupplementary_4cfef 42 = .ok (.iload 4, 2) := by decide +kernel
theorem dJ2_indexOfSupplementary_4cfef_44 : decode cJ2_indexOfSupplementary_4cfef 44 = .ok (.if_icmp .ne 19, 3) := by decide +kernel
theorem dJ2_indexOfSupplementary_4cfef_47 : decode cJ2_indexOfSupplementary_4cfef 47 = .ok (.aload_n 0, 1) := by decide +kernel
theorem dJ2_indexOfSupplementary_4cfef_48 : decode cJ2_indexOfSupplementary_4cfef 48 = .ok (.iload 6, 2) := by decide +kernel
theorem dJ2_indexOfSupplementary_4cfef_50 : decode cJ2_indexOfSupplementary_4cfef 50 = .ok (.iconst 1, 1) := by decide +kernel
theorem dJ2_indexOfSupplementary_4cfef_51 : decode cJ2_indexOfSupplementary_4cfef 51 = .ok (.iadd, 1) := by decide +kernel
theorem dJ2_indexOfSupplementary_4cfef_52 : decode cJ2_indexOfSupplementary_4cfef 52 = .ok (.invokestatic 71, 3) := by decide +kernel
theorem dJ2_indexOfSupplementary_4cfef_55 : decode cJ2_indexOfSupplementary_4cfef 55 = .ok (.iload 5, 2) := by decide +kernel
theorem dJ2_indexOfSupplementary_4cfef_57 : decode cJ2_indexOfSupplementary_4cfef 57 = .ok (.if_icmp .ne 6, 3) := by decide +kernel
theorem dJ2_indexOfSupplementary_4cfef_60 : decode cJ2_indexOfSupplementary_4cfef 60 = .ok (.iload 6, 2) := by decide +kernel
theorem dJ2_indexOfSupplementary_4cfef_62 : decode cJ2_indexOfSupplementary_4cfef 62 = .ok (.ireturn, 1) := by decide +kernel
theorem dJ2_indexOfSupplementary_4cfef_63 : decode cJ2_indexOfSupplementary_4cfef 63 = .ok (.iinc 6 1, 3) := by decide +kernel
theorem dJ2_indexOfSupplementary_4cfef_66 : decode cJ2_indexOfSupplementary_4cfef 66 = .ok (.goto (-38), 3) := by decide +kernel
theorem dJ2_indexOfSupplementary_4cfef_69 : decode cJ2_indexOfSupplementary_4cfef 69 = .ok (.iconst (-1), 1) := by decide +kernel
theorem dJ2_indexOfSupplementary_4cfef_70 : decode cJ2_indexOfSupplementary_4cfef 70 = .ok (.ireturn, 1) := by decide +kernel
theorem dJ2_checkBoundsBeginEnd_d044e_0 : decode cJ2_checkBoundsBeginEnd_d044e 0 = .ok (.iload_n 0, 1) := by decide +kernel
theorem dJ2_checkBoundsBeginEnd_d044e_1 : decode cJ2_checkBoundsBeginEnd_d044e 1 = .ok (.iload_n 1, 1) := by decide +kernel
theorem dJ2_checkBoundsBeginEnd_d044e_2 : decode cJ2_checkBoundsBeginEnd_d044e 2 = .ok (.aload_n 2, 1) := by decide +kernel
theorem dJ2_checkBoundsBeginEnd_d044e_3 : decode cJ2_checkBoundsBeginEnd_d044e 3 = .ok (.invokestatic 48, 3) := by decide +kernel
theorem dJ2_checkBoundsBeginEnd_d044e_6 : decode cJ2_checkBoundsBeginEnd_d044e 6 = .ok (.invokestatic 241, 3) := by decide +kernel
theorem dJ2_checkBoundsBeginEnd_d044e_9 : decode cJ2_checkBoundsBeginEnd_d044e 9 = .ok (.return_, 1) := by decide +kernel
theorem dJ3_checkFromToIndex_8c36e_0 : decode cJ3_checkFromToIndex_8c36e 0 = .ok (.iload_n 0, 1) := by decide +kernel
theorem dJ3_checkFromToIndex_8c36e_1 : decode cJ3_checkFromToIndex_8c36e 1 = .ok (.ifCond .lt 13, 3) := by decide +kernel
theorem dJ3_checkFromToIndex_8c36e_4 : decode cJ3_checkFromToIndex_8c36e 4 = .ok (.iload_n 0, 1) := by decide +kernel
theorem dJ3_checkFromToIndex_8c36e_5 : decode cJ3_checkFromToIndex_8c36e 5 = .ok (.iload_n 1, 1) := by decide +kernel
theorem dJ3_checkFromToIndex_8c36e_6 : decode cJ3_checkFromToIndex_8c36e 6 = .ok (.if_icmp .gt 8, 3) := by decide +kernel
theorem dJ3_checkFromToIndex_8c36e_9 : decode cJ3_checkFromToIndex_8c36e 9 = .ok (.iload_n 1, 1) := by decide +kernel
theorem dJ3_checkFromToIndex_8c36e_10 : decode cJ3_checkFromToIndex_8c36e 10 = .ok (.iload_n 2, 1) := by decide +kernel
theorem dJ3_checkFromToIndex_8c36e_11 : decode cJ3_checkFromToIndex_8c36e 11 = .ok (.if_icmp .le 11, 3) := by decide +kernel
theorem dJ3_checkFromToIndex_8c36e_14 : decode cJ3_checkFromToIndex_8c36e 14 = .ok (.aload_n 3, 1) := by decide +kernel
theorem dJ3_checkFromToIndex_8c36e_15 : decode cJ3_checkFromToIndex_8c36e 15 = .ok (.iload_n 0, 1) := by decide +kernel
theorem dJ3_checkFromToIndex_8c36e_16 : decode cJ3_checkFromToIndex_8c36e 16 = .ok (.iload_n 1, 1) := by decide +kernel
theorem dJ3_checkFromToIndex_8c36e_17 : decode cJ3_checkFromToIndex_8c36e 17 = .ok (.iload_n 2, 1) := by decide +kernel
theorem dJ3_checkFromToIndex_8c36e_18 : decode cJ3_checkFromToIndex_8c36e 18 = .ok (.invokestatic 99, 3) := by decide +kernel
theorem dJ3_checkFromToIndex_8c36e_21 : decode cJ3_checkFromToIndex_8c36e 21 = .ok (.athrow, 1) := by decide +kernel
theorem dJ3_checkFromToIndex_8c36e_22 : decode cJ3_checkFromToIndex_8c36e 22 = .ok (.iload_n 0, 1) := by decide +kernel
theorem dJ3_checkFromToIndex_8c36e_23 : decode cJ3_checkFromToIndex_8c36e 23 = .ok (.ireturn, 1) := by decide +kernel
theorem dL_addStation_0 : decode cL_addStation 0 = .ok (.aload 5, 2) := by decide +kernel
theorem dL_addStation_2 : decode cL_addStation 2 = .ok (.iconst 0, 1) := by decide +kernel
theorem dL_addStation_3 : decode cL_addStation 3 = .ok (.aload_n 0, 1) := by decide +kernel
theorem dL_addStation_4 : decode cL_addStation 4 = .ok (.iload_n 1, 1) := by decide +kernel
theorem dL_addStation_5 : decode cL_addStation 5 = .ok (.iload_n 2, 1) := by decide +kernel
theorem dL_addStation_6 : decode cL_addStation 6 = .ok (.iload_n 3, 1) := by decide +kernel
theorem dL_addStation_7 : decode cL_addStation 7 = .ok (.iload 4, 2) := by decide +kernel
theorem dL_addStation_9 : decode cL_addStation 9 = .ok (.invokevirtual 7, 3) := by decide +kernel
theorem dL_addStation_12 : decode cL_addStation 12 = .ok (.i2l, 1) := by decide +kernel
theorem dL_addStation_13 : decode cL_addStation 13 = .ok (.lastore, 1) := by decide +kernel
theorem dL_addStation_14 : decode cL_addStation 14 = .ok (.goto 11, 3) := by decide +kernel
theorem dL_addStation_17 : decode cL_addStation 17 = .ok (.astore 6, 2) := by decide +kernel
theorem dL_addStation_19 : decode cL_addStation 19 = .ok (.iconst 1, 1) := by decide +kernel
theorem dL_addStation_20 : decode cL_addStation 20 = .ok (.ireturn, 1) := by decide +kernel
theorem dL_addStation_21 : decode cL_addStation 21 = .ok (.astore 6, 2) := by decide +kernel
theorem dL_addStation_23 : decode cL_addStation 23 = .ok (.iconst 2, 1) := by decide +kernel
theorem dL_addStation_24 : decode cL_addStation 24 = .ok (.ireturn, 1) := by decide +kernel
theorem dL_addStation_25 : decode cL_addStation 25 = .ok (.iconst 0, 1) := by decide +kernel
theorem dL_addStation_26 : decode cL_addStation 26 = .ok (.ireturn, 1) := by decide +kernel
theorem dL_supply_0 : decode cL_supply 0 = .ok (.aload_n 3, 1) := by decide +kernel
theorem dL_supply_1 : decode cL_supply 1 = .ok (.iconst 0, 1) := by decide +kernel
theorem dL_supply_2 : decode cL_supply 2 = .ok (.aload_n 0, 1) := by decide +kernel
theorem dL_supply_3 : decode cL_supply 3 = .ok (.iload_n 1, 1) := by decide +kernel
theorem dL_supply_4 : decode cL_supply 4 = .ok (.iload_n 2, 1) := by decide +kernel
theorem dL_supply_5 : decode cL_supply 5 = .ok (.invokevirtual 17, 3) := by decide +kernel
theorem dL_supply_8 : decode cL_supply 8 = .ok (.i2l, 1) := by decide +kernel
theorem dL_supply_9 : decode cL_supply 9 = .ok (.lastore, 1) := by decide +kernel
theorem dL_supply_10 : decode cL_supply 10 = .ok (.goto 15, 3) := by decide +kernel
theorem dL_supply_13 : decode cL_supply 13 = .ok (.astore 4, 2) := by decide +kernel
theorem dL_supply_15 : decode cL_supply 15 = .ok (.iconst 1, 1) := by decide +kernel
theorem dL_supply_16 : decode cL_supply 16 = .ok (.ireturn, 1) := by decide +kernel
theorem dL_supply_17 : decode cL_supply 17 = .ok (.astore 4, 2) := by decide +kernel
theorem dL_supply_19 : decode cL_supply 19 = .ok (.iconst 2, 1) := by decide +kernel
theorem dL_supply_20 : decode cL_supply 20 = .ok (.ireturn, 1) := by decide +kernel
theorem dL_supply_21 : decode cL_supply 21 = .ok (.astore 4, 2) := by decide +kernel
theorem dL_supply_23 : decode cL_supply 23 = .ok (.iconst 3, 1) := by decide +kernel
theorem dL_supply_24 : decode cL_supply 24 = .ok (.ireturn, 1) := by decide +kernel
theorem dL_supply_25 : decode cL_supply 25 = .ok (.iconst 0, 1) := by decide +kernel
theorem dL_supply_26 : decode cL_supply 26 = .ok (.ireturn, 1) := by decide +kernel
theorem dL_setPeriod_0 : decode cL_setPeriod 0 = .ok (.aload_n 2, 1) := by decide +kernel
theorem dL_setPeriod_1 : decode cL_setPeriod 1 = .ok (.iconst 0, 1) := by decide +kernel
theorem dL_setPeriod_2 : decode cL_setPeriod 2 = .ok (.aload_n 0, 1) := by decide +kernel
theorem dL_setPeriod_3 : decode cL_setPeriod 3 = .ok (.iload_n 1, 1) := by decide +kernel
theorem dL_setPeriod_4 : decode cL_setPeriod 4 = .ok (.invokevirtual 23, 3) := by decide +kernel
theorem dL_setPeriod_7 : decode cL_setPeriod 7 = .ok (.i2l, 1) := by decide +kernel
theorem dL_setPeriod_8 : decode cL_setPeriod 8 = .ok (.lastore, 1) := by decide +kernel
theorem dL_setPeriod_9 : decode cL_setPeriod 9 = .ok (.goto 6, 3) := by decide +kernel
theorem dL_setPeriod_12 : decode cL_setPeriod 12 = .ok (.astore_n 3, 1) := by decide +kernel
theorem dL_setPeriod_13 : decode cL_setPeriod 13 = .ok (.iconst 1, 1) := by decide +kernel
theorem dL_setPeriod_14 : decode cL_setPeriod 14 = .ok (.ireturn, 1) := by decide +kernel
theorem dL_setPeriod_15 : decode cL_setPeriod 15 = .ok (.iconst 0, 1) := by decide +kernel
theorem dL_setPeriod_16 : decode cL_setPeriod 16 = .ok (.ireturn, 1) := by decide +kernel
theorem dL_addCar_0 : decode cL_addCar 0 = .ok (.aload_n 2, 1) := by decide +kernel
theorem dL_addCar_1 : decode cL_addCar 1 = .ok (.iconst 0, 1) := by decide +kernel
theorem dL_addCar_2 : decode cL_addCar 2 = .ok (.aload_n 0, 1) := by decide +kernel
theorem dL_addCar_3 : decode cL_addCar 3 = .ok (.iload_n 1, 1) := by decide +kernel
theorem dL_addCar_4 : decode cL_addCar 4 = .ok (.invokevirtual 27, 3) := by decide +kernel
theorem dL_addCar_7 : decode cL_addCar 7 = .ok (.i2l, 1) := by decide +kernel
theorem dL_addCar_8 : decode cL_addCar 8 = .ok (.lastore, 1) := by decide +kernel
theorem dL_addCar_9 : decode cL_addCar 9 = .ok (.goto 9, 3) := by decide +kernel
theorem dL_addCar_12 : decode cL_addCar 12 = .ok (.astore_n 3, 1) := by decide +kernel
theorem dL_addCar_13 : decode cL_addCar 13 = .ok (.iconst 1, 1) := by decide +kernel
theorem dL_addCar_14 : decode cL_addCar 14 = .ok (.ireturn, 1) := by decide +kernel
theorem dL_addCar_15 : decode cL_addCar 15 = .ok (.astore_n 3, 1) := by decide +kernel
theorem dL_addCar_16 : decode cL_addCar 16 = .ok (.iconst 2, 1) := by decide +kernel
theorem dL_addCar_17 : decode cL_addCar 17 = .ok (.ireturn, 1) := by decide +kernel
theorem dL_addCar_18 : decode cL_addCar 18 = .ok (.iconst 0, 1) := by decide +kernel
theorem dL_addCar_19 : decode cL_addCar 19 = .ok (.ireturn, 1) := by decide +kernel
theorem dL_swap_0 : decode cL_swap 0 = .ok (.aload_n 3, 1) := by decide +kernel
theorem dL_swap_1 : decode cL_swap 1 = .ok (.iconst 0, 1) := by decide +kernel
theorem dL_swap_2 : decode cL_swap 2 = .ok (.aload_n 0, 1) := by decide +kernel
theorem dL_swap_3 : decode cL_swap 3 = .ok (.iload_n 1, 1) := by decide +kernel
theorem dL_swap_4 : decode cL_swap 4 = .ok (.iload_n 2, 1) := by decide +kernel
theorem dL_swap_5 : decode cL_swap 5 = .ok (.invokevirtual 30, 3) := by decide +kernel
theorem dL_swap_8 : decode cL_swap 8 = .ok (.i2l, 1) := by decide +kernel
theorem dL_swap_9 : decode cL_swap 9 = .ok (.lastore, 1) := by decide +kernel
theorem dL_swap_10 : decode cL_swap 10 = .ok (.goto 15, 3) := by decide +kernel
theorem dL_swap_13 : decode cL_swap 13 = .ok (.astore 4, 2) := by decide +kernel
theorem dL_swap_15 : decode cL_swap 15 = .ok (.iconst 1, 1) := by decide +kernel
theorem dL_swap_16 : decode cL_swap 16 = .ok (.ireturn, 1) := by decide +kernel
theorem dL_swap_17 : decode cL_swap 17 = .ok (.astore 4, 2) := by decide +kernel
theorem dL_swap_19 : decode cL_swap 19 = .ok (.iconst 2, 1) := by decide +kernel
theorem dL_swap_20 : decode cL_swap 20 = .ok (.ireturn, 1) := by decide +kernel
theorem dL_swap_21 : decode cL_swap 21 = .ok (.astore 4, 2) := by decide +kernel
theorem dL_swap_23 : decode cL_swap 23 = .ok (.iconst 3, 1) := by decide +kernel
theorem dL_swap_24 : decode cL_swap 24 = .ok (.ireturn, 1) := by decide +kernel
theorem dL_swap_25 : decode cL_swap 25 = .ok (.iconst 0, 1) := by decide +kernel
theorem dL_swap_26 : decode cL_swap 26 = .ok (.ireturn, 1) := by decide +kernel
theorem dL_fault_0 : decode cL_fault 0 = .ok (.aload_n 3, 1) := by decide +kernel
theorem dL_fault_1 : decode cL_fault 1 = .ok (.iconst 0, 1) := by decide +kernel
theorem dL_fault_2 : decode cL_fault 2 = .ok (.aload_n 0, 1) := by decide +kernel
theorem dL_fault_3 : decode cL_fault 3 = .ok (.iload_n 1, 1) := by decide +kernel
theorem dL_fault_4 : decode cL_fault 4 = .ok (.iload_n 2, 1) := by decide +kernel
theorem dL_fault_5 : decode cL_fault 5 = .ok (.invokevirtual 33, 3) := by decide +kernel
theorem dL_fault_8 : decode cL_fault 8 = .ok (.i2l, 1) := by decide +kernel
theorem dL_fault_9 : decode cL_fault 9 = .ok (.lastore, 1) := by decide +kernel
theorem dL_fault_10 : decode cL_fault 10 = .ok (.goto 15, 3) := by decide +kernel
theorem dL_fault_13 : decode cL_fault 13 = .ok (.astore 4, 2) := by decide +kernel
theorem dL_fault_15 : decode cL_fault 15 = .ok (.iconst 1, 1) := by decide +kernel
theorem dL_fault_16 : decode cL_fault 16 = .ok (.ireturn, 1) := by decide +kernel
theorem dL_fault_17 : decode cL_fault 17 = .ok (.astore 4, 2) := by decide +kernel
theorem dL_fault_19 : decode cL_fault 19 = .ok (.iconst 2, 1) := by decide +kernel
theorem dL_fault_20 : decode cL_fault 20 = .ok (.ireturn, 1) := by decide +kernel
theorem dL_fault_21 : decode cL_fault 21 = .ok (.astore 4, 2) := by decide +kernel
theorem dL_fault_23 : decode cL_fault 23 = .ok (.iconst 3, 1) := by decide +kernel
theorem dL_fault_24 : decode cL_fault 24 = .ok (.ireturn, 1) := by decide +kernel
theorem dL_fault_25 : decode cL_fault 25 = .ok (.iconst 0, 1) := by decide +kernel
theorem dL_fault_26 : decode cL_fault 26 = .ok (.ireturn, 1) := by decide +kernel
theorem dL_tick_0 : decode cL_tick 0 = .ok (.aload_n 2, 1) := by decide +kernel
theorem dL_tick_1 : decode cL_tick 1 = .ok (.iconst 0, 1) := by decide +kernel
theorem dL_tick_2 : decode cL_tick 2 = .ok (.aload_n 0, 1) := by decide +kernel
theorem dL_tick_3 : decode cL_tick 3 = .ok (.iload_n 1, 1) := by decide +kernel
theorem dL_tick_4 : decode cL_tick 4 = .ok (.invokevirtual 38, 3) := by decide +kernel
theorem dL_tick_7 : decode cL_tick 7 = .ok (.i2l, 1) := by decide +kernel
theorem dL_tick_8 : decode cL_tick 8 = .ok (.lastore, 1) := by decide +kernel
theorem dL_tick_9 : decode cL_tick 9 = .ok (.goto 9, 3) := by decide +kernel
theorem dL_tick_12 : decode cL_tick 12 = .ok (.astore_n 3, 1) := by decide +kernel
theorem dL_tick_13 : decode cL_tick 13 = .ok (.iconst 1, 1) := by decide +kernel
theorem dL_tick_14 : decode cL_tick 14 = .ok (.ireturn, 1) := by decide +kernel
theorem dL_tick_15 : decode cL_tick 15 = .ok (.astore_n 3, 1) := by decide +kernel
theorem dL_tick_16 : decode cL_tick 16 = .ok (.iconst 2, 1) := by decide +kernel
theorem dL_tick_17 : decode cL_tick 17 = .ok (.ireturn, 1) := by decide +kernel
theorem dL_tick_18 : decode cL_tick 18 = .ok (.iconst 0, 1) := by decide +kernel
theorem dL_tick_19 : decode cL_tick 19 = .ok (.ireturn, 1) := by decide +kernel
theorem dL_stateOf_0 : decode cL_stateOf 0 = .ok (.aload_n 2, 1) := by decide +kernel
theorem dL_stateOf_1 : decode cL_stateOf 1 = .ok (.iconst 0, 1) := by decide +kernel
theorem dL_stateOf_2 : decode cL_stateOf 2 = .ok (.aload_n 0, 1) := by decide +kernel
theorem dL_stateOf_3 : decode cL_stateOf 3 = .ok (.iload_n 1, 1) := by decide +kernel
theorem dL_stateOf_4 : decode cL_stateOf 4 = .ok (.invokevirtual 41, 3) := by decide +kernel
theorem dL_stateOf_7 : decode cL_stateOf 7 = .ok (.i2l, 1) := by decide +kernel
theorem dL_stateOf_8 : decode cL_stateOf 8 = .ok (.lastore, 1) := by decide +kernel
theorem dL_stateOf_9 : decode cL_stateOf 9 = .ok (.goto 6, 3) := by decide +kernel
theorem dL_stateOf_12 : decode cL_stateOf 12 = .ok (.astore_n 3, 1) := by decide +kernel
theorem dL_stateOf_13 : decode cL_stateOf 13 = .ok (.iconst 1, 1) := by decide +kernel
theorem dL_stateOf_14 : decode cL_stateOf 14 = .ok (.ireturn, 1) := by decide +kernel
theorem dL_stateOf_15 : decode cL_stateOf 15 = .ok (.iconst 0, 1) := by decide +kernel
theorem dL_stateOf_16 : decode cL_stateOf 16 = .ok (.ireturn, 1) := by decide +kernel
theorem dL_stationOf_0 : decode cL_stationOf 0 = .ok (.aload_n 2, 1) := by decide +kernel
theorem dL_stationOf_1 : decode cL_stationOf 1 = .ok (.iconst 0, 1) := by decide +kernel
theorem dL_stationOf_2 : decode cL_stationOf 2 = .ok (.aload_n 0, 1) := by decide +kernel
theorem dL_stationOf_3 : decode cL_stationOf 3 = .ok (.iload_n 1, 1) := by decide +kernel
theorem dL_stationOf_4 : decode cL_stationOf 4 = .ok (.invokevirtual 45, 3) := by decide +kernel
theorem dL_stationOf_7 : decode cL_stationOf 7 = .ok (.i2l, 1) := by decide +kernel
theorem dL_stationOf_8 : decode cL_stationOf 8 = .ok (.lastore, 1) := by decide +kernel
theorem dL_stationOf_9 : decode cL_stationOf 9 = .ok (.goto 9, 3) := by decide +kernel
theorem dL_stationOf_12 : decode cL_stationOf 12 = .ok (.astore_n 3, 1) := by decide +kernel
theorem dL_stationOf_13 : decode cL_stationOf 13 = .ok (.iconst 1, 1) := by decide +kernel
theorem dL_stationOf_14 : decode cL_stationOf 14 = .ok (.ireturn, 1) := by decide +kernel
theorem dL_stationOf_15 : decode cL_stationOf 15 = .ok (.astore_n 3, 1) := by decide +kernel
theorem dL_stationOf_16 : decode cL_stationOf 16 = .ok (.iconst 2, 1) := by decide +kernel
theorem dL_stationOf_17 : decode cL_stationOf 17 = .ok (.ireturn, 1) := by decide +kernel
theorem dL_stationOf_18 : decode cL_stationOf 18 = .ok (.iconst 0, 1) := by decide +kernel
theorem dL_stationOf_19 : decode cL_stationOf 19 = .ok (.ireturn, 1) := by decide +kernel
theorem dL_toGo_0 : decode cL_toGo 0 = .ok (.aload_n 2, 1) := by decide +kernel
theorem dL_toGo_1 : decode cL_toGo 1 = .ok (.iconst 0, 1) := by decide +kernel
theorem dL_toGo_2 : decode cL_toGo 2 = .ok (.aload_n 0, 1) := by decide +kernel
theorem dL_toGo_3 : decode cL_toGo 3 = .ok (.iload_n 1, 1) := by decide +kernel
theorem dL_toGo_4 : decode cL_toGo 4 = .ok (.invokevirtual 48, 3) := by decide +kernel
theorem dL_toGo_7 : decode cL_toGo 7 = .ok (.i2l, 1) := by decide +kernel
theorem dL_toGo_8 : decode cL_toGo 8 = .ok (.lastore, 1) := by decide +kernel
theorem dL_toGo_9 : decode cL_toGo 9 = .ok (.goto 9, 3) := by decide +kernel
theorem dL_toGo_12 : decode cL_toGo 12 = .ok (.astore_n 3, 1) := by decide +kernel
theorem dL_toGo_13 : decode cL_toGo 13 = .ok (.iconst 1, 1) := by decide +kernel
theorem dL_toGo_14 : decode cL_toGo 14 = .ok (.ireturn, 1) := by decide +kernel
theorem dL_toGo_15 : decode cL_toGo 15 = .ok (.astore_n 3, 1) := by decide +kernel
theorem dL_toGo_16 : decode cL_toGo 16 = .ok (.iconst 2, 1) := by decide +kernel
theorem dL_toGo_17 : decode cL_toGo 17 = .ok (.ireturn, 1) := by decide +kernel
theorem dL_toGo_18 : decode cL_toGo 18 = .ok (.iconst 0, 1) := by decide +kernel
theorem dL_toGo_19 : decode cL_toGo 19 = .ok (.ireturn, 1) := by decide +kernel
theorem dL_carAt_0 : decode cL_carAt 0 = .ok (.aload_n 2, 1) := by decide +kernel
theorem dL_carAt_1 : decode cL_carAt 1 = .ok (.iconst 0, 1) := by decide +kernel
theorem dL_carAt_2 : decode cL_carAt 2 = .ok (.aload_n 0, 1) := by decide +kernel
theorem dL_carAt_3 : decode cL_carAt 3 = .ok (.iload_n 1, 1) := by decide +kernel
theorem dL_carAt_4 : decode cL_carAt 4 = .ok (.invokevirtual 51, 3) := by decide +kernel
theorem dL_carAt_7 : decode cL_carAt 7 = .ok (.i2l, 1) := by decide +kernel
theorem dL_carAt_8 : decode cL_carAt 8 = .ok (.lastore, 1) := by decide +kernel
theorem dL_carAt_9 : decode cL_carAt 9 = .ok (.goto 9, 3) := by decide +kernel
theorem dL_carAt_12 : decode cL_carAt 12 = .ok (.astore_n 3, 1) := by decide +kernel
theorem dL_carAt_13 : decode cL_carAt 13 = .ok (.iconst 1, 1) := by decide +kernel
theorem dL_carAt_14 : decode cL_carAt 14 = .ok (.ireturn, 1) := by decide +kernel
theorem dL_carAt_15 : decode cL_carAt 15 = .ok (.astore_n 3, 1) := by decide +kernel
theorem dL_carAt_16 : decode cL_carAt 16 = .ok (.iconst 2, 1) := by decide +kernel
theorem dL_carAt_17 : decode cL_carAt 17 = .ok (.ireturn, 1) := by decide +kernel
theorem dL_carAt_18 : decode cL_carAt 18 = .ok (.iconst 0, 1) := by decide +kernel
theorem dL_carAt_19 : decode cL_carAt 19 = .ok (.ireturn, 1) := by decide +kernel
theorem dL_isBack_0 : decode cL_isBack 0 = .ok (.aload_n 2, 1) := by decide +kernel
theorem dL_isBack_1 : decode cL_isBack 1 = .ok (.iconst 0, 1) := by decide +kernel
theorem dL_isBack_2 : decode cL_isBack 2 = .ok (.aload_n 0, 1) := by decide +kernel
theorem dL_isBack_3 : decode cL_isBack 3 = .ok (.iload_n 1, 1) := by decide +kernel
theorem dL_isBack_4 : decode cL_isBack 4 = .ok (.invokevirtual 54, 3) := by decide +kernel
theorem dL_isBack_7 : decode cL_isBack 7 = .ok (.ifCond .eq 7, 3) := by decide +kernel
theorem dL_isBack_10 : decode cL_isBack 10 = .ok (.lconst 1, 1) := by decide +kernel
theorem dL_isBack_11 : decode cL_isBack 11 = .ok (.goto 4, 3) := by decide +kernel
theorem dL_isBack_14 : decode cL_isBack 14 = .ok (.lconst 0, 1) := by decide +kernel
theorem dL_isBack_15 : decode cL_isBack 15 = .ok (.lastore, 1) := by decide +kernel
theorem dL_isBack_16 : decode cL_isBack 16 = .ok (.goto 6, 3) := by decide +kernel
theorem dL_isBack_19 : decode cL_isBack 19 = .ok (.astore_n 3, 1) := by decide +kernel
theorem dL_isBack_20 : decode cL_isBack 20 = .ok (.iconst 1, 1) := by decide +kernel
theorem dL_isBack_21 : decode cL_isBack 21 = .ok (.ireturn, 1) := by decide +kernel
theorem dL_isBack_22 : decode cL_isBack 22 = .ok (.iconst 0, 1) := by decide +kernel
theorem dL_isBack_23 : decode cL_isBack 23 = .ok (.ireturn, 1) := by decide +kernel
theorem dL_waitingAt_0 : decode cL_waitingAt 0 = .ok (.aload_n 2, 1) := by decide +kernel
theorem dL_waitingAt_1 : decode cL_waitingAt 1 = .ok (.iconst 0, 1) := by decide +kernel
theorem dL_waitingAt_2 : decode cL_waitingAt 2 = .ok (.aload_n 0, 1) := by decide +kernel
theorem dL_waitingAt_3 : decode cL_waitingAt 3 = .ok (.iload_n 1, 1) := by decide +kernel
theorem dL_waitingAt_4 : decode cL_waitingAt 4 = .ok (.invokevirtual 58, 3) := by decide +kernel
theorem dL_waitingAt_7 : decode cL_waitingAt 7 = .ok (.i2l, 1) := by decide +kernel
theorem dL_waitingAt_8 : decode cL_waitingAt 8 = .ok (.lastore, 1) := by decide +kernel
theorem dL_waitingAt_9 : decode cL_waitingAt 9 = .ok (.goto 6, 3) := by decide +kernel
theorem dL_waitingAt_12 : decode cL_waitingAt 12 = .ok (.astore_n 3, 1) := by decide +kernel
theorem dL_waitingAt_13 : decode cL_waitingAt 13 = .ok (.iconst 1, 1) := by decide +kernel
theorem dL_waitingAt_14 : decode cL_waitingAt 14 = .ok (.ireturn, 1) := by decide +kernel
theorem dL_waitingAt_15 : decode cL_waitingAt 15 = .ok (.iconst 0, 1) := by decide +kernel
theorem dL_waitingAt_16 : decode cL_waitingAt 16 = .ok (.ireturn, 1) := by decide +kernel
theorem dL_loopedAt_0 : decode cL_loopedAt 0 = .ok (.aload_n 2, 1) := by decide +kernel
theorem dL_loopedAt_1 : decode cL_loopedAt 1 = .ok (.iconst 0, 1) := by decide +kernel
theorem dL_loopedAt_2 : decode cL_loopedAt 2 = .ok (.aload_n 0, 1) := by decide +kernel
theorem dL_loopedAt_3 : decode cL_loopedAt 3 = .ok (.iload_n 1, 1) := by decide +kernel
theorem dL_loopedAt_4 : decode cL_loopedAt 4 = .ok (.invokevirtual 63, 3) := by decide +kernel
theorem dL_loopedAt_7 : decode cL_loopedAt 7 = .ok (.i2l, 1) := by decide +kernel
theorem dL_loopedAt_8 : decode cL_loopedAt 8 = .ok (.lastore, 1) := by decide +kernel
theorem dL_loopedAt_9 : decode cL_loopedAt 9 = .ok (.goto 6, 3) := by decide +kernel
theorem dL_loopedAt_12 : decode cL_loopedAt 12 = .ok (.astore_n 3, 1) := by decide +kernel
theorem dL_loopedAt_13 : decode cL_loopedAt 13 = .ok (.iconst 1, 1) := by decide +kernel
theorem dL_loopedAt_14 : decode cL_loopedAt 14 = .ok (.ireturn, 1) := by decide +kernel
theorem dL_loopedAt_15 : decode cL_loopedAt 15 = .ok (.iconst 0, 1) := by decide +kernel
theorem dL_loopedAt_16 : decode cL_loopedAt 16 = .ok (.ireturn, 1) := by decide +kernel
theorem dL_leftAt_0 : decode cL_leftAt 0 = .ok (.aload_n 2, 1) := by decide +kernel
theorem dL_leftAt_1 : decode cL_leftAt 1 = .ok (.iconst 0, 1) := by decide +kernel
theorem dL_leftAt_2 : decode cL_leftAt 2 = .ok (.aload_n 0, 1) := by decide +kernel
theorem dL_leftAt_3 : decode cL_leftAt 3 = .ok (.iload_n 1, 1) := by decide +kernel
theorem dL_leftAt_4 : decode cL_leftAt 4 = .ok (.invokevirtual 66, 3) := by decide +kernel
theorem dL_leftAt_7 : decode cL_leftAt 7 = .ok (.i2l, 1) := by decide +kernel
theorem dL_leftAt_8 : decode cL_leftAt 8 = .ok (.lastore, 1) := by decide +kernel
theorem dL_leftAt_9 : decode cL_leftAt 9 = .ok (.goto 6, 3) := by decide +kernel
theorem dL_leftAt_12 : decode cL_leftAt 12 = .ok (.astore_n 3, 1) := by decide +kernel
theorem dL_leftAt_13 : decode cL_leftAt 13 = .ok (.iconst 1, 1) := by decide +kernel
theorem dL_leftAt_14 : decode cL_leftAt 14 = .ok (.ireturn, 1) := by decide +kernel
theorem dL_leftAt_15 : decode cL_leftAt 15 = .ok (.iconst 0, 1) := by decide +kernel
theorem dL_leftAt_16 : decode cL_leftAt 16 = .ok (.ireturn, 1) := by decide +kernel
theorem dL_leftIn_0 : decode cL_leftIn 0 = .ok (.aload_n 2, 1) := by decide +kernel
theorem dL_leftIn_1 : decode cL_leftIn 1 = .ok (.iconst 0, 1) := by decide +kernel
theorem dL_leftIn_2 : decode cL_leftIn 2 = .ok (.aload_n 0, 1) := by decide +kernel
theorem dL_leftIn_3 : decode cL_leftIn 3 = .ok (.iload_n 1, 1) := by decide +kernel
theorem dL_leftIn_4 : decode cL_leftIn 4 = .ok (.invokevirtual 69, 3) := by decide +kernel
theorem dL_leftIn_7 : decode cL_leftIn 7 = .ok (.i2l, 1) := by decide +kernel
theorem dL_leftIn_8 : decode cL_leftIn 8 = .ok (.lastore, 1) := by decide +kernel
theorem dL_leftIn_9 : decode cL_leftIn 9 = .ok (.goto 9, 3) := by decide +kernel
theorem dL_leftIn_12 : decode cL_leftIn 12 = .ok (.astore_n 3, 1) := by decide +kernel
theorem dL_leftIn_13 : decode cL_leftIn 13 = .ok (.iconst 1, 1) := by decide +kernel
theorem dL_leftIn_14 : decode cL_leftIn 14 = .ok (.ireturn, 1) := by decide +kernel
theorem dL_leftIn_15 : decode cL_leftIn 15 = .ok (.astore_n 3, 1) := by decide +kernel
theorem dL_leftIn_16 : decode cL_leftIn 16 = .ok (.iconst 2, 1) := by decide +kernel
theorem dL_leftIn_17 : decode cL_leftIn 17 = .ok (.ireturn, 1) := by decide +kernel
theorem dL_leftIn_18 : decode cL_leftIn 18 = .ok (.iconst 0, 1) := by decide +kernel
theorem dL_leftIn_19 : decode cL_leftIn 19 = .ok (.ireturn, 1) := by decide +kernel
theorem dL_faults_0 : decode cL_faults 0 = .ok (.aload_n 2, 1) := by decide +kernel
theorem dL_faults_1 : decode cL_faults 1 = .ok (.iconst 0, 1) := by decide +kernel
theorem dL_faults_2 : decode cL_faults 2 = .ok (.aload_n 0, 1) := by decide +kernel
theorem dL_faults_3 : decode cL_faults 3 = .ok (.iload_n 1, 1) := by decide +kernel
theorem dL_faults_4 : decode cL_faults 4 = .ok (.invokevirtual 72, 3) := by decide +kernel
theorem dL_faults_7 : decode cL_faults 7 = .ok (.i2l, 1) := by decide +kernel
theorem dL_faults_8 : decode cL_faults 8 = .ok (.lastore, 1) := by decide +kernel
theorem dL_faults_9 : decode cL_faults 9 = .ok (.goto 6, 3) := by decide +kernel
theorem dL_faults_12 : decode cL_faults 12 = .ok (.astore_n 3, 1) := by decide +kernel
theorem dL_faults_13 : decode cL_faults 13 = .ok (.iconst 1, 1) := by decide +kernel
theorem dL_faults_14 : decode cL_faults 14 = .ok (.ireturn, 1) := by decide +kernel
theorem dL_faults_15 : decode cL_faults 15 = .ok (.iconst 0, 1) := by decide +kernel
theorem dL_faults_16 : decode cL_faults 16 = .ok (.ireturn, 1) := by decide +kernel
theorem dL_hasFault_0 : decode cL_hasFault 0 = .ok (.aload_n 3, 1) := by decide +kernel
theorem dL_hasFault_1 : decode cL_hasFault 1 = .ok (.iconst 0, 1) := by decide +kernel
theorem dL_hasFault_2 : decode cL_hasFault 2 = .ok (.aload_n 0, 1) := by decide +kernel
theorem dL_hasFault_3 : decode cL_hasFault 3 = .ok (.iload_n 1, 1) := by decide +kernel
theorem dL_hasFault_4 : decode cL_hasFault 4 = .ok (.iload_n 2, 1) := by decide +kernel
theorem dL_hasFault_5 : decode cL_hasFault 5 = .ok (.invokevirtual 75, 3) := by decide +kernel
theorem dL_hasFault_8 : decode cL_hasFault 8 = .ok (.ifCond .eq 7, 3) := by decide +kernel
theorem dL_hasFault_11 : decode cL_hasFault 11 = .ok (.lconst 1, 1) := by decide +kernel
theorem dL_hasFault_12 : decode cL_hasFault 12 = .ok (.goto 4, 3) := by decide +kernel
theorem dL_hasFault_15 : decode cL_hasFault 15 = .ok (.lconst 0, 1) := by decide +kernel
theorem dL_hasFault_16 : decode cL_hasFault 16 = .ok (.lastore, 1) := by decide +kernel
theorem dL_hasFault_17 : decode cL_hasFault 17 = .ok (.goto 7, 3) := by decide +kernel
theorem dL_hasFault_20 : decode cL_hasFault 20 = .ok (.astore 4, 2) := by decide +kernel
theorem dL_hasFault_22 : decode cL_hasFault 22 = .ok (.iconst 1, 1) := by decide +kernel
theorem dL_hasFault_23 : decode cL_hasFault 23 = .ok (.ireturn, 1) := by decide +kernel
theorem dL_hasFault_24 : decode cL_hasFault 24 = .ok (.iconst 0, 1) := by decide +kernel
theorem dL_hasFault_25 : decode cL_hasFault 25 = .ok (.ireturn, 1) := by decide +kernel
theorem dL_lacks_0 : decode cL_lacks 0 = .ok (.aload_n 2, 1) := by decide +kernel
theorem dL_lacks_1 : decode cL_lacks 1 = .ok (.iconst 0, 1) := by decide +kernel
theorem dL_lacks_2 : decode cL_lacks 2 = .ok (.aload_n 0, 1) := by decide +kernel
theorem dL_lacks_3 : decode cL_lacks 3 = .ok (.iload_n 1, 1) := by decide +kernel
theorem dL_lacks_4 : decode cL_lacks 4 = .ok (.invokevirtual 79, 3) := by decide +kernel
theorem dL_lacks_7 : decode cL_lacks 7 = .ok (.i2l, 1) := by decide +kernel
theorem dL_lacks_8 : decode cL_lacks 8 = .ok (.lastore, 1) := by decide +kernel
theorem dL_lacks_9 : decode cL_lacks 9 = .ok (.goto 6, 3) := by decide +kernel
theorem dL_lacks_12 : decode cL_lacks 12 = .ok (.astore_n 3, 1) := by decide +kernel
theorem dL_lacks_13 : decode cL_lacks 13 = .ok (.iconst 1, 1) := by decide +kernel
theorem dL_lacks_14 : decode cL_lacks 14 = .ok (.ireturn, 1) := by decide +kernel
theorem dL_lacks_15 : decode cL_lacks 15 = .ok (.iconst 0, 1) := by decide +kernel
theorem dL_lacks_16 : decode cL_lacks 16 = .ok (.ireturn, 1) := by decide +kernel
theorem dL_lacksOf_0 : decode cL_lacksOf 0 = .ok (.aload_n 2, 1) := by decide +kernel
theorem dL_lacksOf_1 : decode cL_lacksOf 1 = .ok (.iconst 0, 1) := by decide +kernel
theorem dL_lacksOf_2 : decode cL_lacksOf 2 = .ok (.aload_n 0, 1) := by decide +kernel
theorem dL_lacksOf_3 : decode cL_lacksOf 3 = .ok (.iload_n 1, 1) := by decide +kernel
theorem dL_lacksOf_4 : decode cL_lacksOf 4 = .ok (.invokevirtual 82, 3) := by decide +kernel
theorem dL_lacksOf_7 : decode cL_lacksOf 7 = .ok (.i2l, 1) := by decide +kernel
theorem dL_lacksOf_8 : decode cL_lacksOf 8 = .ok (.lastore, 1) := by decide +kernel
theorem dL_lacksOf_9 : decode cL_lacksOf 9 = .ok (.goto 6, 3) := by decide +kernel
theorem dL_lacksOf_12 : decode cL_lacksOf 12 = .ok (.astore_n 3, 1) := by decide +kernel
theorem dL_lacksOf_13 : decode cL_lacksOf 13 = .ok (.iconst 1, 1) := by decide +kernel
theorem dL_lacksOf_14 : decode cL_lacksOf 14 = .ok (.ireturn, 1) := by decide +kernel
theorem dL_lacksOf_15 : decode cL_lacksOf 15 = .ok (.iconst 0, 1) := by decide +kernel
theorem dL_lacksOf_16 : decode cL_lacksOf 16 = .ok (.ireturn, 1) := by decide +kernel
theorem dL_onShelf_0 : decode cL_onShelf 0 = .ok (.aload_n 2, 1) := by decide +kernel
theorem dL_onShelf_1 : decode cL_onShelf 1 = .ok (.iconst 0, 1) := by decide +kernel
theorem dL_onShelf_2 : decode cL_onShelf 2 = .ok (.aload_n 0, 1) := by decide +kernel
theorem dL_onShelf_3 : decode cL_onShelf 3 = .ok (.iload_n 1, 1) := by decide +kernel
theorem dL_onShelf_4 : decode cL_onShelf 4 = .ok (.invokevirtual 85, 3) := by decide +kernel
theorem dL_onShelf_7 : decode cL_onShelf 7 = .ok (.i2l, 1) := by decide +kernel
theorem dL_onShelf_8 : decode cL_onShelf 8 = .ok (.lastore, 1) := by decide +kernel
theorem dL_onShelf_9 : decode cL_onShelf 9 = .ok (.goto 6, 3) := by decide +kernel
theorem dL_onShelf_12 : decode cL_onShelf 12 = .ok (.astore_n 3, 1) := by decide +kernel
theorem dL_onShelf_13 : decode cL_onShelf 13 = .ok (.iconst 1, 1) := by decide +kernel
theorem dL_onShelf_14 : decode cL_onShelf 14 = .ok (.ireturn, 1) := by decide +kernel
theorem dL_onShelf_15 : decode cL_onShelf 15 = .ok (.iconst 0, 1) := by decide +kernel
theorem dL_onShelf_16 : decode cL_onShelf 16 = .ok (.ireturn, 1) := by decide +kernel
theorem dL_inStore_0 : decode cL_inStore 0 = .ok (.aload_n 2, 1) := by decide +kernel
theorem dL_inStore_1 : decode cL_inStore 1 = .ok (.iconst 0, 1) := by decide +kernel
theorem dL_inStore_2 : decode cL_inStore 2 = .ok (.aload_n 0, 1) := by decide +kernel
theorem dL_inStore_3 : decode cL_inStore 3 = .ok (.iload_n 1, 1) := by decide +kernel
theorem dL_inStore_4 : decode cL_inStore 4 = .ok (.invokevirtual 88, 3) := by decide +kernel
theorem dL_inStore_7 : decode cL_inStore 7 = .ok (.i2l, 1) := by decide +kernel
theorem dL_inStore_8 : decode cL_inStore 8 = .ok (.lastore, 1) := by decide +kernel
theorem dL_inStore_9 : decode cL_inStore 9 = .ok (.goto 6, 3) := by decide +kernel
theorem dL_inStore_12 : decode cL_inStore 12 = .ok (.astore_n 3, 1) := by decide +kernel
theorem dL_inStore_13 : decode cL_inStore 13 = .ok (.iconst 1, 1) := by decide +kernel
theorem dL_inStore_14 : decode cL_inStore 14 = .ok (.ireturn, 1) := by decide +kernel
theorem dL_inStore_15 : decode cL_inStore 15 = .ok (.iconst 0, 1) := by decide +kernel
theorem dL_inStore_16 : decode cL_inStore 16 = .ok (.ireturn, 1) := by decide +kernel
theorem dL_leavesIn_0 : decode cL_leavesIn 0 = .ok (.aload_n 2, 1) := by decide +kernel
theorem dL_leavesIn_1 : decode cL_leavesIn 1 = .ok (.iconst 0, 1) := by decide +kernel
theorem dL_leavesIn_2 : decode cL_leavesIn 2 = .ok (.aload_n 0, 1) := by decide +kernel
theorem dL_leavesIn_3 : decode cL_leavesIn 3 = .ok (.iload_n 1, 1) := by decide +kernel
theorem dL_leavesIn_4 : decode cL_leavesIn 4 = .ok (.invokevirtual 91, 3) := by decide +kernel
theorem dL_leavesIn_7 : decode cL_leavesIn 7 = .ok (.i2l, 1) := by decide +kernel
theorem dL_leavesIn_8 : decode cL_leavesIn 8 = .ok (.lastore, 1) := by decide +kernel
theorem dL_leavesIn_9 : decode cL_leavesIn 9 = .ok (.goto 12, 3) := by decide +kernel
theorem dL_leavesIn_12 : decode cL_leavesIn 12 = .ok (.astore_n 3, 1) := by decide +kernel
theorem dL_leavesIn_13 : decode cL_leavesIn 13 = .ok (.iconst 1, 1) := by decide +kernel
theorem dL_leavesIn_14 : decode cL_leavesIn 14 = .ok (.ireturn, 1) := by decide +kernel
theorem dL_leavesIn_15 : decode cL_leavesIn 15 = .ok (.astore_n 3, 1) := by decide +kernel
theorem dL_leavesIn_16 : decode cL_leavesIn 16 = .ok (.iconst 2, 1) := by decide +kernel
theorem dL_leavesIn_17 : decode cL_leavesIn 17 = .ok (.ireturn, 1) := by decide +kernel
theorem dL_leavesIn_18 : decode cL_leavesIn 18 = .ok (.astore_n 3, 1) := by decide +kernel
theorem dL_leavesIn_19 : decode cL_leavesIn 19 = .ok (.iconst 3, 1) := by decide +kernel
theorem dL_leavesIn_20 : decode cL_leavesIn 20 = .ok (.ireturn, 1) := by decide +kernel
theorem dL_leavesIn_21 : decode cL_leavesIn 21 = .ok (.iconst 0, 1) := by decide +kernel
theorem dL_leavesIn_22 : decode cL_leavesIn 22 = .ok (.ireturn, 1) := by decide +kernel
theorem dL_leavesByTicks_0 : decode cL_leavesByTicks 0 = .ok (.aload_n 2, 1) := by decide +kernel
theorem dL_leavesByTicks_1 : decode cL_leavesByTicks 1 = .ok (.iconst 0, 1) := by decide +kernel
theorem dL_leavesByTicks_2 : decode cL_leavesByTicks 2 = .ok (.aload_n 0, 1) := by decide +kernel
theorem dL_leavesByTicks_3 : decode cL_leavesByTicks 3 = .ok (.iload_n 1, 1) := by decide +kernel
theorem dL_leavesByTicks_4 : decode cL_leavesByTicks 4 = .ok (.invokevirtual 94, 3) := by decide +kernel
theorem dL_leavesByTicks_7 : decode cL_leavesByTicks 7 = .ok (.i2l, 1) := by decide +kernel
theorem dL_leavesByTicks_8 : decode cL_leavesByTicks 8 = .ok (.lastore, 1) := by decide +kernel
theorem dL_leavesByTicks_9 : decode cL_leavesByTicks 9 = .ok (.goto 12, 3) := by decide +kernel
theorem dL_leavesByTicks_12 : decode cL_leavesByTicks 12 = .ok (.astore_n 3, 1) := by decide +kernel
theorem dL_leavesByTicks_13 : decode cL_leavesByTicks 13 = .ok (.iconst 1, 1) := by decide +kernel
theorem dL_leavesByTicks_14 : decode cL_leavesByTicks 14 = .ok (.ireturn, 1) := by decide +kernel
theorem dL_leavesByTicks_15 : decode cL_leavesByTicks 15 = .ok (.astore_n 3, 1) := by decide +kernel
theorem dL_leavesByTicks_16 : decode cL_leavesByTicks 16 = .ok (.iconst 2, 1) := by decide +kernel
theorem dL_leavesByTicks_17 : decode cL_leavesByTicks 17 = .ok (.ireturn, 1) := by decide +kernel
theorem dL_leavesByTicks_18 : decode cL_leavesByTicks 18 = .ok (.astore_n 3, 1) := by decide +kernel
theorem dL_leavesByTicks_19 : decode cL_leavesByTicks 19 = .ok (.iconst 3, 1) := by decide +kernel
theorem dL_leavesByTicks_20 : decode cL_leavesByTicks 20 = .ok (.ireturn, 1) := by decide +kernel
theorem dL_leavesByTicks_21 : decode cL_leavesByTicks 21 = .ok (.iconst 0, 1) := by decide +kernel
theorem dL_leavesByTicks_22 : decode cL_leavesByTicks 22 = .ok (.ireturn, 1) := by decide +kernel
theorem dL_nextToLeave_0 : decode cL_nextToLeave 0 = .ok (.aload_n 1, 1) := by decide +kernel
theorem dL_nextToLeave_1 : decode cL_nextToLeave 1 = .ok (.iconst 0, 1) := by decide +kernel
theorem dL_nextToLeave_2 : decode cL_nextToLeave 2 = .ok (.aload_n 0, 1) := by decide +kernel
theorem dL_nextToLeave_3 : decode cL_nextToLeave 3 = .ok (.invokevirtual 97, 3) := by decide +kernel
theorem dL_nextToLeave_6 : decode cL_nextToLeave 6 = .ok (.i2l, 1) := by decide +kernel
theorem dL_nextToLeave_7 : decode cL_nextToLeave 7 = .ok (.lastore, 1) := by decide +kernel
theorem dL_nextToLeave_8 : decode cL_nextToLeave 8 = .ok (.goto 6, 3) := by decide +kernel
theorem dL_nextToLeave_11 : decode cL_nextToLeave 11 = .ok (.astore_n 2, 1) := by decide +kernel
theorem dL_nextToLeave_12 : decode cL_nextToLeave 12 = .ok (.iconst 1, 1) := by decide +kernel
theorem dL_nextToLeave_13 : decode cL_nextToLeave 13 = .ok (.ireturn, 1) := by decide +kernel
theorem dL_nextToLeave_14 : decode cL_nextToLeave 14 = .ok (.iconst 0, 1) := by decide +kernel
theorem dL_nextToLeave_15 : decode cL_nextToLeave 15 = .ok (.ireturn, 1) := by decide +kernel
theorem dL_traceLength_0 : decode cL_traceLength 0 = .ok (.aload_n 2, 1) := by decide +kernel
theorem dL_traceLength_1 : decode cL_traceLength 1 = .ok (.iconst 0, 1) := by decide +kernel
theorem dL_traceLength_2 : decode cL_traceLength 2 = .ok (.aload_n 0, 1) := by decide +kernel
theorem dL_traceLength_3 : decode cL_traceLength 3 = .ok (.iload_n 1, 1) := by decide +kernel
theorem dL_traceLength_4 : decode cL_traceLength 4 = .ok (.invokevirtual 101, 3) := by decide +kernel
theorem dL_traceLength_7 : decode cL_traceLength 7 = .ok (.i2l, 1) := by decide +kernel
theorem dL_traceLength_8 : decode cL_traceLength 8 = .ok (.lastore, 1) := by decide +kernel
theorem dL_traceLength_9 : decode cL_traceLength 9 = .ok (.goto 6, 3) := by decide +kernel
theorem dL_traceLength_12 : decode cL_traceLength 12 = .ok (.astore_n 3, 1) := by decide +kernel
theorem dL_traceLength_13 : decode cL_traceLength 13 = .ok (.iconst 1, 1) := by decide +kernel
theorem dL_traceLength_14 : decode cL_traceLength 14 = .ok (.ireturn, 1) := by decide +kernel
theorem dL_traceLength_15 : decode cL_traceLength 15 = .ok (.iconst 0, 1) := by decide +kernel
theorem dL_traceLength_16 : decode cL_traceLength 16 = .ok (.ireturn, 1) := by decide +kernel
theorem dL_traceAt_0 : decode cL_traceAt 0 = .ok (.aload_n 3, 1) := by decide +kernel
theorem dL_traceAt_1 : decode cL_traceAt 1 = .ok (.iconst 0, 1) := by decide +kernel
theorem dL_traceAt_2 : decode cL_traceAt 2 = .ok (.aload_n 0, 1) := by decide +kernel
theorem dL_traceAt_3 : decode cL_traceAt 3 = .ok (.iload_n 1, 1) := by decide +kernel
theorem dL_traceAt_4 : decode cL_traceAt 4 = .ok (.iload_n 2, 1) := by decide +kernel
theorem dL_traceAt_5 : decode cL_traceAt 5 = .ok (.invokevirtual 104, 3) := by decide +kernel
theorem dL_traceAt_8 : decode cL_traceAt 8 = .ok (.i2l, 1) := by decide +kernel
theorem dL_traceAt_9 : decode cL_traceAt 9 = .ok (.lastore, 1) := by decide +kernel
theorem dL_traceAt_10 : decode cL_traceAt 10 = .ok (.goto 11, 3) := by decide +kernel
theorem dL_traceAt_13 : decode cL_traceAt 13 = .ok (.astore 4, 2) := by decide +kernel
theorem dL_traceAt_15 : decode cL_traceAt 15 = .ok (.iconst 1, 1) := by decide +kernel
theorem dL_traceAt_16 : decode cL_traceAt 16 = .ok (.ireturn, 1) := by decide +kernel
theorem dL_traceAt_17 : decode cL_traceAt 17 = .ok (.astore 4, 2) := by decide +kernel
theorem dL_traceAt_19 : decode cL_traceAt 19 = .ok (.iconst 2, 1) := by decide +kernel
theorem dL_traceAt_20 : decode cL_traceAt 20 = .ok (.ireturn, 1) := by decide +kernel
theorem dL_traceAt_21 : decode cL_traceAt 21 = .ok (.iconst 0, 1) := by decide +kernel
theorem dL_traceAt_22 : decode cL_traceAt 22 = .ok (.ireturn, 1) := by decide +kernel
theorem dL_countOf_0 : decode cL_countOf 0 = .ok (.aload_n 2, 1) := by decide +kernel
theorem dL_countOf_1 : decode cL_countOf 1 = .ok (.iconst 0, 1) := by decide +kernel
theorem dL_countOf_2 : decode cL_countOf 2 = .ok (.aload_n 0, 1) := by decide +kernel
theorem dL_countOf_3 : decode cL_countOf 3 = .ok (.iload_n 1, 1) := by decide +kernel
theorem dL_countOf_4 : decode cL_countOf 4 = .ok (.invokevirtual 108, 3) := by decide +kernel
theorem dL_countOf_7 : decode cL_countOf 7 = .ok (.i2l, 1) := by decide +kernel
theorem dL_countOf_8 : decode cL_countOf 8 = .ok (.lastore, 1) := by decide +kernel
theorem dL_countOf_9 : decode cL_countOf 9 = .ok (.goto 6, 3) := by decide +kernel
theorem dL_countOf_12 : decode cL_countOf 12 = .ok (.astore_n 3, 1) := by decide +kernel
theorem dL_countOf_13 : decode cL_countOf 13 = .ok (.iconst 1, 1) := by decide +kernel
theorem dL_countOf_14 : decode cL_countOf 14 = .ok (.ireturn, 1) := by decide +kernel
theorem dL_countOf_15 : decode cL_countOf 15 = .ok (.iconst 0, 1) := by decide +kernel
theorem dL_countOf_16 : decode cL_countOf 16 = .ok (.ireturn, 1) := by decide +kernel
theorem dL_lackShare_0 : decode cL_lackShare 0 = .ok (.aload_n 1, 1) := by decide +kernel
theorem dL_lackShare_1 : decode cL_lackShare 1 = .ok (.iconst 0, 1) := by decide +kernel
theorem dL_lackShare_2 : decode cL_lackShare 2 = .ok (.aload_n 0, 1) := by decide +kernel
theorem dL_lackShare_3 : decode cL_lackShare 3 = .ok (.invokevirtual 112, 3) := by decide +kernel
theorem dL_lackShare_6 : decode cL_lackShare 6 = .ok (.f2d, 1) := by decide +kernel
theorem dL_lackShare_7 : decode cL_lackShare 7 = .ok (.dastore, 1) := by decide +kernel
theorem dL_lackShare_8 : decode cL_lackShare 8 = .ok (.goto 6, 3) := by decide +kernel
theorem dL_lackShare_11 : decode cL_lackShare 11 = .ok (.astore_n 2, 1) := by decide +kernel
theorem dL_lackShare_12 : decode cL_lackShare 12 = .ok (.iconst 1, 1) := by decide +kernel
theorem dL_lackShare_13 : decode cL_lackShare 13 = .ok (.ireturn, 1) := by decide +kernel
theorem dL_lackShare_14 : decode cL_lackShare 14 = .ok (.iconst 0, 1) := by decide +kernel
theorem dL_lackShare_15 : decode cL_lackShare 15 = .ok (.ireturn, 1) := by decide +kernel
theorem dL_meanTime_0 : decode cL_meanTime 0 = .ok (.aload_n 1, 1) := by decide +kernel
theorem dL_meanTime_1 : decode cL_meanTime 1 = .ok (.iconst 0, 1) := by decide +kernel
theorem dL_meanTime_2 : decode cL_meanTime 2 = .ok (.aload_n 0, 1) := by decide +kernel
theorem dL_meanTime_3 : decode cL_meanTime 3 = .ok (.invokevirtual 118, 3) := by decide +kernel
theorem dL_meanTime_6 : decode cL_meanTime 6 = .ok (.dastore, 1) := by decide +kernel
theorem dL_meanTime_7 : decode cL_meanTime 7 = .ok (.goto 6, 3) := by decide +kernel
theorem dL_meanTime_10 : decode cL_meanTime 10 = .ok (.astore_n 2, 1) := by decide +kernel
theorem dL_meanTime_11 : decode cL_meanTime 11 = .ok (.iconst 1, 1) := by decide +kernel
theorem dL_meanTime_12 : decode cL_meanTime 12 = .ok (.ireturn, 1) := by decide +kernel
theorem dL_meanTime_13 : decode cL_meanTime 13 = .ok (.iconst 0, 1) := by decide +kernel
theorem dL_meanTime_14 : decode cL_meanTime 14 = .ok (.ireturn, 1) := by decide +kernel
theorem dL_law_0 : decode cL_law 0 = .ok (.new 8, 3) := by decide +kernel
theorem dL_law_3 : decode cL_law 3 = .ok (.dup, 1) := by decide +kernel
theorem dL_law_4 : decode cL_law 4 = .ok (.invokespecial 122, 3) := by decide +kernel
theorem dL_law_7 : decode cL_law 7 = .ok (.astore_n 1, 1) := by decide +kernel
theorem dL_law_8 : decode cL_law 8 = .ok (.new 123, 3) := by decide +kernel
theorem dL_law_11 : decode cL_law 11 = .ok (.dup, 1) := by decide +kernel
theorem dL_law_12 : decode cL_law 12 = .ok (.invokespecial 125, 3) := by decide +kernel
theorem dL_law_15 : decode cL_law 15 = .ok (.astore_n 2, 1) := by decide +kernel
theorem dL_law_16 : decode cL_law 16 = .ok (.iconst 1, 1) := by decide +kernel
theorem dL_law_17 : decode cL_law 17 = .ok (.newarray .long, 2) := by decide +kernel
theorem dL_law_19 : decode cL_law 19 = .ok (.astore_n 3, 1) := by decide +kernel
theorem dL_law_20 : decode cL_law 20 = .ok (.iconst 1, 1) := by decide +kernel
theorem dL_law_21 : decode cL_law 21 = .ok (.newarray .double, 2) := by decide +kernel
theorem dL_law_23 : decode cL_law 23 = .ok (.astore 4, 2) := by decide +kernel
theorem dL_law_25 : decode cL_law 25 = .ok (.iconst 0, 1) := by decide +kernel
theorem dL_law_26 : decode cL_law 26 = .ok (.istore 5, 2) := by decide +kernel
theorem dL_law_28 : decode cL_law 28 = .ok (.iload 5, 2) := by decide +kernel
theorem dL_law_30 : decode cL_law 30 = .ok (.aload_n 0, 1) := by decide +kernel
theorem dL_law_31 : decode cL_law 31 = .ok (.arraylength, 1) := by decide +kernel
theorem dL_law_32 : decode cL_law 32 = .ok (.iconst 5, 1) := by decide +kernel
theorem dL_law_33 : decode cL_law 33 = .ok (.isub, 1) := by decide +kernel
theorem dL_law_34 : decode cL_law 34 = .ok (.if_icmp .gt 2088, 3) := by decide +kernel
theorem dL_law_37 : decode cL_law 37 = .ok (.aload_n 0, 1) := by decide +kernel
theorem dL_law_38 : decode cL_law 38 = .ok (.iload 5, 2) := by decide +kernel
theorem dL_law_40 : decode cL_law 40 = .ok (.iaload, 1) := by decide +kernel
theorem dL_law_41 : decode cL_law 41 = .ok (.bipush 63, 2) := by decide +kernel
theorem dL_law_43 : decode cL_law 43 = .ok (.iand, 1) := by decide +kernel
theorem dL_law_44 : decode cL_law 44 = .ok (.tableswitch 2072 0 37 #[168, 260, 328, 384, 440, 508, 576, 632, 645, 658, 671, 727, 783, 839, 895, 958, 971, 1027, 1040, 1096, 1109, 1165, 1221, 1277, 1352, 1408, 1464, 1520, 1576, 1589, 1645, 1701, 1745, 1801, 1869, 1927, 1941, 2007], 168) := by decide +kernel
theorem dL_law_212 : decode cL_law 212 = .ok (.aload_n 1, 1) := by decide +kernel
theorem dL_law_213 : decode cL_law 213 = .ok (.aload_n 0, 1) := by decide +kernel
theorem dL_law_214 : decode cL_law 214 = .ok (.iload 5, 2) := by decide +kernel
theorem dL_law_216 : decode cL_law 216 = .ok (.iconst 1, 1) := by decide +kernel
theorem dL_law_217 : decode cL_law 217 = .ok (.iadd, 1) := by decide +kernel
theorem dL_law_218 : decode cL_law 218 = .ok (.iaload, 1) := by decide +kernel
theorem dL_law_219 : decode cL_law 219 = .ok (.aload_n 0, 1) := by decide +kernel
theorem dL_law_220 : decode cL_law 220 = .ok (.iload 5, 2) := by decide +kernel
theorem dL_law_222 : decode cL_law 222 = .ok (.iconst 2, 1) := by decide +kernel
theorem dL_law_223 : decode cL_law 223 = .ok (.iadd, 1) := by decide +kernel
theorem dL_law_224 : decode cL_law 224 = .ok (.iaload, 1) := by decide +kernel
theorem dL_law_225 : decode cL_law 225 = .ok (.aload_n 0, 1) := by decide +kernel
theorem dL_law_226 : decode cL_law 226 = .ok (.iload 5, 2) := by decide +kernel
theorem dL_law_228 : decode cL_law 228 = .ok (.iconst 3, 1) := by decide +kernel
theorem dL_law_229 : decode cL_law 229 = .ok (.iadd, 1) := by decide +kernel
theorem dL_law_230 : decode cL_law 230 = .ok (.iaload, 1) := by decide +kernel
theorem dL_law_231 : decode cL_law 231 = .ok (.aload_n 0, 1) := by decide +kernel
theorem dL_law_232 : decode cL_law 232 = .ok (.iload 5, 2) := by decide +kernel
theorem dL_law_234 : decode cL_law 234 = .ok (.iconst 4, 1) := by decide +kernel
theorem dL_law_235 : decode cL_law 235 = .ok (.iadd, 1) := by decide +kernel
theorem dL_law_236 : decode cL_law 236 = .ok (.iaload, 1) := by decide +kernel
theorem dL_law_237 : decode cL_law 237 = .ok (.aload_n 3, 1) := by decide +kernel
theorem dL_law_238 : decode cL_law 238 = .ok (.invokestatic 126, 3) := by decide +kernel
theorem dL_law_241 : decode cL_law 241 = .ok (.istore 6, 2) := by decide +kernel
theorem dL_law_243 : decode cL_law 243 = .ok (.aload_n 2, 1) := by decide +kernel
theorem dL_law_244 : decode cL_law 244 = .ok (.aload_n 0, 1) := by decide +kernel
theorem dL_law_245 : decode cL_law 245 = .ok (.iload 5, 2) := by decide +kernel
theorem dL_law_247 : decode cL_law 247 = .ok (.iconst 1, 1) := by decide +kernel
theorem dL_law_248 : decode cL_law 248 = .ok (.iadd, 1) := by decide +kernel
theorem dL_law_249 : decode cL_law 249 = .ok (.iaload, 1) := by decide +kernel
theorem dL_law_250 : decode cL_law 250 = .ok (.aload_n 0, 1) := by decide +kernel
theorem dL_law_251 : decode cL_law 251 = .ok (.iload 5, 2) := by decide +kernel
theorem dL_law_253 : decode cL_law 253 = .ok (.iconst 2, 1) := by decide +kernel
theorem dL_law_254 : decode cL_law 254 = .ok (.iadd, 1) := by decide +kernel
theorem dL_law_255 : decode cL_law 255 = .ok (.iaload, 1) := by decide +kernel
theorem dL_law_256 : decode cL_law 256 = .ok (.aload_n 0, 1) := by decide +kernel
theorem dL_law_257 : decode cL_law 257 = .ok (.iload 5, 2) := by decide +kernel
theorem dL_law_259 : decode cL_law 259 = .ok (.iconst 3, 1) := by decide +kernel
theorem dL_law_260 : decode cL_law 260 = .ok (.iadd, 1) := by decide +kernel
theorem dL_law_261 : decode cL_law 261 = .ok (.iaload, 1) := by decide +kernel
theorem dL_law_262 : decode cL_law 262 = .ok (.aload_n 0, 1) := by decide +kernel
theorem dL_law_263 : decode cL_law 263 = .ok (.iload 5, 2) := by decide +kernel
theorem dL_law_265 : decode cL_law 265 = .ok (.iconst 4, 1) := by decide +kernel
theorem dL_law_266 : decode cL_law 266 = .ok (.iadd, 1) := by decide +kernel
theorem dL_law_267 : decode cL_law 267 = .ok (.iaload, 1) := by decide +kernel
theorem dL_law_268 : decode cL_law 268 = .ok (.invokevirtual 131, 3) := by decide +kernel
theorem dL_law_271 : decode cL_law 271 = .ok (.istore 7, 2) := by decide +kernel
theorem dL_law_273 : decode cL_law 273 = .ok (.aload_n 2, 1) := by decide +kernel
theorem dL_law_274 : decode cL_law 274 = .ok (.invokevirtual 132, 3) := by decide +kernel
theorem dL_law_277 : decode cL_law 277 = .ok (.iload 6, 2) := by decide +kernel
theorem dL_law_279 : decode cL_law 279 = .ok (.if_icmp .eq 5, 3) := by decide +kernel
theorem dL_law_282 : decode cL_law 282 = .ok (.iconst 0, 1) := by decide +kernel
theorem dL_law_283 : decode cL_law 283 = .ok (.ireturn, 1) := by decide +kernel
theorem dL_law_284 : decode cL_law 284 = .ok (.iload 6, 2) := by decide +kernel
theorem dL_law_286 : decode cL_law 286 = .ok (.ifCond .ne 15, 3) := by decide +kernel
theorem dL_law_289 : decode cL_law 289 = .ok (.aload_n 3, 1) := by decide +kernel
theorem dL_law_290 : decode cL_law 290 = .ok (.iconst 0, 1) := by decide +kernel
theorem dL_law_291 : decode cL_law 291 = .ok (.laload, 1) := by decide +kernel
theorem dL_law_292 : decode cL_law 292 = .ok (.iload 7, 2) := by decide +kernel
theorem dL_law_294 : decode cL_law 294 = .ok (.i2l, 1) := by decide +kernel
theorem dL_law_295 : decode cL_law 295 = .ok (.lcmp, 1) := by decide +kernel
theorem dL_law_296 : decode cL_law 296 = .ok (.ifCond .eq 5, 3) := by decide +kernel
theorem dL_law_299 : decode cL_law 299 = .ok (.iconst 0, 1) := by decide +kernel
theorem dL_law_300 : decode cL_law 300 = .ok (.ireturn, 1) := by decide +kernel
theorem dL_law_301 : decode cL_law 301 = .ok (.goto 1815, 3) := by decide +kernel
theorem dL_law_304 : decode cL_law 304 = .ok (.aload_n 1, 1) := by decide +kernel
theorem dL_law_305 : decode cL_law 305 = .ok (.aload_n 0, 1) := by decide +kernel
theorem dL_law_306 : decode cL_law 306 = .ok (.iload 5, 2) := by decide +kernel
theorem dL_law_308 : decode cL_law 308 = .ok (.iconst 1, 1) := by decide +kernel
theorem dL_law_309 : decode cL_law 309 = .ok (.iadd, 1) := by decide +kernel
theorem dL_law_310 : decode cL_law 310 = .ok (.iaload, 1) := by decide +kernel
theorem dL_law_311 : decode cL_law 311 = .ok (.aload_n 0, 1) := by decide +kernel
theorem dL_law_312 : decode cL_law 312 = .ok (.iload 5, 2) := by decide +kernel
theorem dL_law_314 : decode cL_law 314 = .ok (.iconst 2, 1) := by decide +kernel
theorem dL_law_315 : decode cL_law 315 = .ok (.iadd, 1) := by decide +kernel
theorem dL_law_316 : decode cL_law 316 = .ok (.iaload, 1) := by decide +kernel
theorem dL_law_317 : decode cL_law 317 = .ok (.aload_n 3, 1) := by decide +kernel
theorem dL_law_318 : decode cL_law 318 = .ok (.invokestatic 135, 3) := by decide +kernel
theorem dL_law_321 : decode cL_law 321 = .ok (.istore 6, 2) := by decide +kernel
theorem dL_law_323 : decode cL_law 323 = .ok (.aload_n 2, 1) := by decide +kernel
theorem dL_law_324 : decode cL_law 324 = .ok (.aload_n 0, 1) := by decide +kernel
theorem dL_law_325 : decode cL_law 325 = .ok (.iload 5, 2) := by decide +kernel
theorem dL_law_327 : decode cL_law 327 = .ok (.iconst 1, 1) := by decide +kernel
theorem dL_law_328 : decode cL_law 328 = .ok (.iadd, 1) := by decide +kernel
theorem dL_law_329 : decode cL_law 329 = .ok (.iaload, 1) := by decide +kernel
theorem dL_law_330 : decode cL_law 330 = .ok (.aload_n 0, 1) := by decide +kernel
theorem dL_law_331 : decode cL_law 331 = .ok (.iload 5, 2) := by decide +kernel
theorem dL_law_333 : decode cL_law 333 = .ok (.iconst 2, 1) := by decide +kernel
theorem dL_law_334 : decode cL_law 334 = .ok (.iadd, 1) := by decide +kernel
theorem dL_law_335 : decode cL_law 335 = .ok (.iaload, 1) := by decide +kernel
theorem dL_law_336 : decode cL_law 336 = .ok (.invokevirtual 138, 3) := by decide +kernel
theorem dL_law_339 : decode cL_law 339 = .ok (.istore 7, 2) := by decide +kernel
theorem dL_law_341 : decode cL_law 341 = .ok (.aload_n 2, 1) := by decide +kernel
theorem dL_law_342 : decode cL_law 342 = .ok (.invokevirtual 132, 3) := by decide +kernel
theorem dL_law_345 : decode cL_law 345 = .ok (.iload 6, 2) := by decide +kernel
theorem dL_law_347 : decode cL_law 347 = .ok (.if_icmp .eq 5, 3) := by decide +kernel
theorem dL_law_350 : decode cL_law 350 = .ok (.iconst 0, 1) := by decide +kernel
theorem dL_law_351 : decode cL_law 351 = .ok (.ireturn, 1) := by decide +kernel
theorem dL_law_352 : decode cL_law 352 = .ok (.iload 6, 2) := by decide +kernel
theorem dL_law_354 : decode cL_law 354 = .ok (.ifCond .ne 15, 3) := by decide +kernel
theorem dL_law_357 : decode cL_law 357 = .ok (.aload_n 3, 1) := by decide +kernel
theorem dL_law_358 : decode cL_law 358 = .ok (.iconst 0, 1) := by decide +kernel
theorem dL_law_359 : decode cL_law 359 = .ok (.laload, 1) := by decide +kernel
theorem dL_law_360 : decode cL_law 360 = .ok (.iload 7, 2) := by decide +kernel
theorem dL_law_362 : decode cL_law 362 = .ok (.i2l, 1) := by decide +kernel
theorem dL_law_363 : decode cL_law 363 = .ok (.lcmp, 1) := by decide +kernel
theorem dL_law_364 : decode cL_law 364 = .ok (.ifCond .eq 5, 3) := by decide +kernel
theorem dL_law_367 : decode cL_law 367 = .ok (.iconst 0, 1) := by decide +kernel
theorem dL_law_368 : decode cL_law 368 = .ok (.ireturn, 1) := by decide +kernel
theorem dL_law_369 : decode cL_law 369 = .ok (.goto 1747, 3) := by decide +kernel
theorem dL_law_372 : decode cL_law 372 = .ok (.aload_n 1, 1) := by decide +kernel
theorem dL_law_373 : decode cL_law 373 = .ok (.aload_n 0, 1) := by decide +kernel
theorem dL_law_374 : decode cL_law 374 = .ok (.iload 5, 2) := by decide +kernel
theorem dL_law_376 : decode cL_law 376 = .ok (.iconst 1, 1) := by decide +kernel
theorem dL_law_377 : decode cL_law 377 = .ok (.iadd, 1) := by decide +kernel
theorem dL_law_378 : decode cL_law 378 = .ok (.iaload, 1) := by decide +kernel
theorem dL_law_379 : decode cL_law 379 = .ok (.aload_n 3, 1) := by decide +kernel
theorem dL_law_380 : decode cL_law 380 = .ok (.invokestatic 139, 3) := by decide +kernel
theorem dL_law_383 : decode cL_law 383 = .ok (.istore 6, 2) := by decide +kernel
theorem dL_law_385 : decode cL_law 385 = .ok (.aload_n 2, 1) := by decide +kernel
theorem dL_law_386 : decode cL_law 386 = .ok (.aload_n 0, 1) := by decide +kernel
theorem dL_law_387 : decode cL_law 387 = .ok (.iload 5, 2) := by decide +kernel
theorem dL_law_389 : decode cL_law 389 = .ok (.iconst 1, 1) := by decide +kernel
theorem dL_law_390 : decode cL_law 390 = .ok (.iadd, 1) := by decide +kernel
theorem dL_law_391 : decode cL_law 391 = .ok (.iaload, 1) := by decide +kernel
theorem dL_law_392 : decode cL_law 392 = .ok (.invokevirtual 142, 3) := by decide +kernel
theorem dL_law_395 : decode cL_law 395 = .ok (.istore 7, 2) := by decide +kernel
theorem dL_law_397 : decode cL_law 397 = .ok (.aload_n 2, 1) := by decide +kernel
theorem dL_law_398 : decode cL_law 398 = .ok (.invokevirtual 132, 3) := by decide +kernel
theorem dL_law_401 : decode cL_law 401 = .ok (.iload 6, 2) := by decide +kernel
theorem dL_law_403 : decode cL_law 403 = .ok (.if_icmp .eq 5, 3) := by decide +kernel
theorem dL_law_406 : decode cL_law 406 = .ok (.iconst 0, 1) := by decide +kernel
theorem dL_law_407 : decode cL_law 407 = .ok (.ireturn, 1) := by decide +kernel
theorem dL_law_408 : decode cL_law 408 = .ok (.iload 6, 2) := by decide +kernel
theorem dL_law_410 : decode cL_law 410 = .ok (.ifCond .ne 15, 3) := by decide +kernel
theorem dL_law_413 : decode cL_law 413 = .ok (.aload_n 3, 1) := by decide +kernel
theorem dL_law_414 : decode cL_law 414 = .ok (.iconst 0, 1) := by decide +kernel
theorem dL_law_415 : decode cL_law 415 = .ok (.laload, 1) := by decide +kernel
theorem dL_law_416 : decode cL_law 416 = .ok (.iload 7, 2) := by decide +kernel
theorem dL_law_418 : decode cL_law 418 = .ok (.i2l, 1) := by decide +kernel
theorem dL_law_419 : decode cL_law 419 = .ok (.lcmp, 1) := by decide +kernel
theorem dL_law_420 : decode cL_law 420 = .ok (.ifCond .eq 5, 3) := by decide +kernel
theorem dL_law_423 : decode cL_law 423 = .ok (.iconst 0, 1) := by decide +kernel
theorem dL_law_424 : decode cL_law 424 = .ok (.ireturn, 1) := by decide +kernel
theorem dL_law_425 : decode cL_law 425 = .ok (.goto 1691, 3) := by decide +kernel
theorem dL_law_428 : decode cL_law 428 = .ok (.aload_n 1, 1) := by decide +kernel
theorem dL_law_429 : decode cL_law 429 = .ok (.aload_n 0, 1) := by decide +kernel
theorem dL_law_430 : decode cL_law 430 = .ok (.iload 5, 2) := by decide +kernel
theorem dL_law_432 : decode cL_law 432 = .ok (.iconst 1, 1) := by decide +kernel
theorem dL_law_433 : decode cL_law 433 = .ok (.iadd, 1) := by decide +kernel
theorem dL_law_434 : decode cL_law 434 = .ok (.iaload, 1) := by decide +kernel
theorem dL_law_435 : decode cL_law 435 = .ok (.aload_n 3, 1) := by decide +kernel
theorem dL_law_436 : decode cL_law 436 = .ok (.invokestatic 143, 3) := by decide +kernel
theorem dL_law_439 : decode cL_law 439 = .ok (.istore 6, 2) := by decide +kernel
theorem dL_law_441 : decode cL_law 441 = .ok (.aload_n 2, 1) := by decide +kernel
theorem dL_law_442 : decode cL_law 442 = .ok (.aload_n 0, 1) := by decide +kernel
theorem dL_law_443 : decode cL_law 443 = .ok (.iload 5, 2) := by decide +kernel
theorem dL_law_445 : decode cL_law 445 = .ok (.iconst 1, 1) := by decide +kernel
theorem dL_law_446 : decode cL_law 446 = .ok (.iadd, 1) := by decide +kernel
theorem dL_law_447 : decode cL_law 447 = .ok (.iaload, 1) := by decide +kernel
theorem dL_law_448 : decode cL_law 448 = .ok (.invokevirtual 145, 3) := by decide +kernel
theorem dL_law_451 : decode cL_law 451 = .ok (.istore 7, 2) := by decide +kernel
theorem dL_law_453 : decode cL_law 453 = .ok (.aload_n 2, 1) := by decide +kernel
theorem dL_law_454 : decode cL_law 454 = .ok (.invokevirtual 132, 3) := by decide +kernel
theorem dL_law_457 : decode cL_law 457 = .ok (.iload 6, 2) := by decide +kernel
theorem dL_law_459 : decode cL_law 459 = .ok (.if_icmp .eq 5, 3) := by decide +kernel
theorem dL_law_462 : decode cL_law 462 = .ok (.iconst 0, 1) := by decide +kernel
theorem dL_law_463 : decode cL_law 463 = .ok (.ireturn, 1) := by decide +kernel
theorem dL_law_464 : decode cL_law 464 = .ok (.iload 6, 2) := by decide +kernel
theorem dL_law_466 : decode cL_law 466 = .ok (.ifCond .ne 15, 3) := by decide +kernel
theorem dL_law_469 : decode cL_law 469 = .ok (.aload_n 3, 1) := by decide +kernel
theorem dL_law_470 : decode cL_law 470 = .ok (.iconst 0, 1) := by decide +kernel
theorem dL_law_471 : decode cL_law 471 = .ok (.laload, 1) := by decide +kernel
theorem dL_law_472 : decode cL_law 472 = .ok (.iload 7, 2) := by decide +kernel
theorem dL_law_474 : decode cL_law 474 = .ok (.i2l, 1) := by decide +kernel
theorem dL_law_475 : decode cL_law 475 = .ok (.lcmp, 1) := by decide +kernel
theorem dL_law_476 : decode cL_law 476 = .ok (.ifCond .eq 5, 3) := by decide +kernel
theorem dL_law_479 : decode cL_law 479 = .ok (.iconst 0, 1) := by decide +kernel
theorem dL_law_480 : decode cL_law 480 = .ok (.ireturn, 1) := by decide +kernel
theorem dL_law_481 : decode cL_law 481 = .ok (.goto 1635, 3) := by decide +kernel
theorem dL_law_484 : decode cL_law 484 = .ok (.aload_n 1, 1) := by decide +kernel
theorem dL_law_485 : decode cL_law 485 = .ok (.aload_n 0, 1) := by decide +kernel
theorem dL_law_486 : decode cL_law 486 = .ok (.iload 5, 2) := by decide +kernel
theorem dL_law_488 : decode cL_law 488 = .ok (.iconst 1, 1) := by decide +kernel
theorem dL_law_489 : decode cL_law 489 = .ok (.iadd, 1) := by decide +kernel
theorem dL_law_490 : decode cL_law 490 = .ok (.iaload, 1) := by decide +kernel
theorem dL_law_491 : decode cL_law 491 = .ok (.aload_n 0, 1) := by decide +kernel
theorem dL_law_492 : decode cL_law 492 = .ok (.iload 5, 2) := by decide +kernel
theorem dL_law_494 : decode cL_law 494 = .ok (.iconst 2, 1) := by decide +kernel
theorem dL_law_495 : decode cL_law 495 = .ok (.iadd, 1) := by decide +kernel
theorem dL_law_496 : decode cL_law 496 = .ok (.iaload, 1) := by decide +kernel
theorem dL_law_497 : decode cL_law 497 = .ok (.aload_n 3, 1) := by decide +kernel
theorem dL_law_498 : decode cL_law 498 = .ok (.invokestatic 146, 3) := by decide +kernel
theorem dL_law_501 : decode cL_law 501 = .ok (.istore 6, 2) := by decide +kernel
theorem dL_law_503 : decode cL_law 503 = .ok (.aload_n 2, 1) := by decide +kernel
theorem dL_law_504 : decode cL_law 504 = .ok (.aload_n 0, 1) := by decide +kernel
theorem dL_law_505 : decode cL_law 505 = .ok (.iload 5, 2) := by decide +kernel
theorem dL_law_507 : decode cL_law 507 = .ok (.iconst 1, 1) := by decide +kernel
theorem dL_law_508 : decode cL_law 508 = .ok (.iadd, 1) := by decide +kernel
theorem dL_law_509 : decode cL_law 509 = .ok (.iaload, 1) := by decide +kernel
theorem dL_law_510 : decode cL_law 510 = .ok (.aload_n 0, 1) := by decide +kernel
theorem dL_law_511 : decode cL_law 511 = .ok (.iload 5, 2) := by decide +kernel
theorem dL_law_513 : decode cL_law 513 = .ok (.iconst 2, 1) := by decide +kernel
theorem dL_law_514 : decode cL_law 514 = .ok (.iadd, 1) := by decide +kernel
theorem dL_law_515 : decode cL_law 515 = .ok (.iaload, 1) := by decide +kernel
theorem dL_law_516 : decode cL_law 516 = .ok (.invokevirtual 148, 3) := by decide +kernel
theorem dL_law_519 : decode cL_law 519 = .ok (.istore 7, 2) := by decide +kernel
theorem dL_law_521 : decode cL_law 521 = .ok (.aload_n 2, 1) := by decide +kernel
theorem dL_law_522 : decode cL_law 522 = .ok (.invokevirtual 132, 3) := by decide +kernel
theorem dL_law_525 : decode cL_law 525 = .ok (.iload 6, 2) := by decide +kernel
theorem dL_law_527 : decode cL_law 527 = .ok (.if_icmp .eq 5, 3) := by decide +kernel
theorem dL_law_530 : decode cL_law 530 = .ok (.iconst 0, 1) := by decide +kernel
theorem dL_law_531 : decode cL_law 531 = .ok (.ireturn, 1) := by decide +kernel
theorem dL_law_532 : decode cL_law 532 = .ok (.iload 6, 2) := by decide +kernel
theorem dL_law_534 : decode cL_law 534 = .ok (.ifCond .ne 15, 3) := by decide +kernel
theorem dL_law_537 : decode cL_law 537 = .ok (.aload_n 3, 1) := by decide +kernel
theorem dL_law_538 : decode cL_law 538 = .ok (.iconst 0, 1) := by decide +kernel
theorem dL_law_539 : decode cL_law 539 = .ok (.laload, 1) := by decide +kernel
theorem dL_law_540 : decode cL_law 540 = .ok (.iload 7, 2) := by decide +kernel
theorem dL_law_542 : decode cL_law 542 = .ok (.i2l, 1) := by decide +kernel
theorem dL_law_543 : decode cL_law 543 = .ok (.lcmp, 1) := by decide +kernel
theorem dL_law_544 : decode cL_law 544 = .ok (.ifCond .eq 5, 3) := by decide +kernel
theorem dL_law_547 : decode cL_law 547 = .ok (.iconst 0, 1) := by decide +kernel
theorem dL_law_548 : decode cL_law 548 = .ok (.ireturn, 1) := by decide +kernel
theorem dL_law_549 : decode cL_law 549 = .ok (.goto 1567, 3) := by decide +kernel
theorem dL_law_552 : decode cL_law 552 = .ok (.aload_n 1, 1) := by decide +kernel
theorem dL_law_553 : decode cL_law 553 = .ok (.aload_n 0, 1) := by decide +kernel
theorem dL_law_554 : decode cL_law 554 = .ok (.iload 5, 2) := by decide +kernel
theorem dL_law_556 : decode cL_law 556 = .ok (.iconst 1, 1) := by decide +kernel
theorem dL_law_557 : decode cL_law 557 = .ok (.iadd, 1) := by decide +kernel
theorem dL_law_558 : decode cL_law 558 = .ok (.iaload, 1) := by decide +kernel
theorem dL_law_559 : decode cL_law 559 = .ok (.aload_n 0, 1) := by decide +kernel
theorem dL_law_560 : decode cL_law 560 = .ok (.iload 5, 2) := by decide +kernel
theorem dL_law_562 : decode cL_law 562 = .ok (.iconst 2, 1) := by decide +kernel
theorem dL_law_563 : decode cL_law 563 = .ok (.iadd, 1) := by decide +kernel
theorem dL_law_564 : decode cL_law 564 = .ok (.iaload, 1) := by decide +kernel
theorem dL_law_565 : decode cL_law 565 = .ok (.aload_n 3, 1) := by decide +kernel
theorem dL_law_566 : decode cL_law 566 = .ok (.invokestatic 149, 3) := by decide +kernel
theorem dL_law_569 : decode cL_law 569 = .ok (.istore 6, 2) := by decide +kernel
theorem dL_law_571 : decode cL_law 571 = .ok (.aload_n 2, 1) := by decide +kernel
theorem dL_law_572 : decode cL_law 572 = .ok (.aload_n 0, 1) := by decide +kernel
theorem dL_law_573 : decode cL_law 573 = .ok (.iload 5, 2) := by decide +kernel
theorem dL_law_575 : decode cL_law 575 = .ok (.iconst 1, 1) := by decide +kernel
theorem dL_law_576 : decode cL_law 576 = .ok (.iadd, 1) := by decide +kernel
theorem dL_law_577 : decode cL_law 577 = .ok (.iaload, 1) := by decide +kernel
theorem dL_law_578 : decode cL_law 578 = .ok (.aload_n 0, 1) := by decide +kernel
theorem dL_law_579 : decode cL_law 579 = .ok (.iload 5, 2) := by decide +kernel
theorem dL_law_581 : decode cL_law 581 = .ok (.iconst 2, 1) := by decide +kernel
theorem dL_law_582 : decode cL_law 582 = .ok (.iadd, 1) := by decide +kernel
theorem dL_law_583 : decode cL_law 583 = .ok (.iaload, 1) := by decide +kernel
theorem dL_law_584 : decode cL_law 584 = .ok (.invokevirtual 151, 3) := by decide +kernel
theorem dL_law_587 : decode cL_law 587 = .ok (.istore 7, 2) := by decide +kernel
theorem dL_law_589 : decode cL_law 589 = .ok (.aload_n 2, 1) := by decide +kernel
theorem dL_law_590 : decode cL_law 590 = .ok (.invokevirtual 132, 3) := by decide +kernel
theorem dL_law_593 : decode cL_law 593 = .ok (.iload 6, 2) := by decide +kernel
theorem dL_law_595 : decode cL_law 595 = .ok (.if_icmp .eq 5, 3) := by decide +kernel
theorem dL_law_598 : decode cL_law 598 = .ok (.iconst 0, 1) := by decide +kernel
theorem dL_law_599 : decode cL_law 599 = .ok (.ireturn, 1) := by decide +kernel
theorem dL_law_600 : decode cL_law 600 = .ok (.iload 6, 2) := by decide +kernel
theorem dL_law_602 : decode cL_law 602 = .ok (.ifCond .ne 15, 3) := by decide +kernel
theorem dL_law_605 : decode cL_law 605 = .ok (.aload_n 3, 1) := by decide +kernel
theorem dL_law_606 : decode cL_law 606 = .ok (.iconst 0, 1) := by decide +kernel
theorem dL_law_607 : decode cL_law 607 = .ok (.laload, 1) := by decide +kernel
theorem dL_law_608 : decode cL_law 608 = .ok (.iload 7, 2) := by decide +kernel
theorem dL_law_610 : decode cL_law 610 = .ok (.i2l, 1) := by decide +kernel
theorem dL_law_611 : decode cL_law 611 = .ok (.lcmp, 1) := by decide +kernel
theorem dL_law_612 : decode cL_law 612 = .ok (.ifCond .eq 5, 3) := by decide +kernel
theorem dL_law_615 : decode cL_law 615 = .ok (.iconst 0, 1) := by decide +kernel
theorem dL_law_616 : decode cL_law 616 = .ok (.ireturn, 1) := by decide +kernel
theorem dL_law_617 : decode cL_law 617 = .ok (.goto 1499, 3) := by decide +kernel
theorem dL_law_620 : decode cL_law 620 = .ok (.aload_n 1, 1) := by decide +kernel
theorem dL_law_621 : decode cL_law 621 = .ok (.aload_n 0, 1) := by decide +kernel
theorem dL_law_622 : decode cL_law 622 = .ok (.iload 5, 2) := by decide +kernel
theorem dL_law_624 : decode cL_law 624 = .ok (.iconst 1, 1) := by decide +kernel
theorem dL_law_625 : decode cL_law 625 = .ok (.iadd, 1) := by decide +kernel
theorem dL_law_626 : decode cL_law 626 = .ok (.iaload, 1) := by decide +kernel
theorem dL_law_627 : decode cL_law 627 = .ok (.aload_n 3, 1) := by decide +kernel
theorem dL_law_628 : decode cL_law 628 = .ok (.invokestatic 152, 3) := by decide +kernel
theorem dL_law_631 : decode cL_law 631 = .ok (.istore 6, 2) := by decide +kernel
theorem dL_law_633 : decode cL_law 633 = .ok (.aload_n 2, 1) := by decide +kernel
theorem dL_law_634 : decode cL_law 634 = .ok (.aload_n 0, 1) := by decide +kernel
theorem dL_law_635 : decode cL_law 635 = .ok (.iload 5, 2) := by decide +kernel
theorem dL_law_637 : decode cL_law 637 = .ok (.iconst 1, 1) := by decide +kernel
theorem dL_law_638 : decode cL_law 638 = .ok (.iadd, 1) := by decide +kernel
theorem dL_law_639 : decode cL_law 639 = .ok (.iaload, 1) := by decide +kernel
theorem dL_law_640 : decode cL_law 640 = .ok (.invokevirtual 154, 3) := by decide +kernel
theorem dL_law_643 : decode cL_law 643 = .ok (.istore 7, 2) := by decide +kernel
theorem dL_law_645 : decode cL_law 645 = .ok (.aload_n 2, 1) := by decide +kernel
theorem dL_law_646 : decode cL_law 646 = .ok (.invokevirtual 132, 3) := by decide +kernel
theorem dL_law_649 : decode cL_law 649 = .ok (.iload 6, 2) := by decide +kernel
theorem dL_law_651 : decode cL_law 651 = .ok (.if_icmp .eq 5, 3) := by decide +kernel
theorem dL_law_654 : decode cL_law 654 = .ok (.iconst 0, 1) := by decide +kernel
theorem dL_law_655 : decode cL_law 655 = .ok (.ireturn, 1) := by decide +kernel
theorem dL_law_656 : decode cL_law 656 = .ok (.iload 6, 2) := by decide +kernel
theorem dL_law_658 : decode cL_law 658 = .ok (.ifCond .ne 15, 3) := by decide +kernel
theorem dL_law_661 : decode cL_law 661 = .ok (.aload_n 3, 1) := by decide +kernel
theorem dL_law_662 : decode cL_law 662 = .ok (.iconst 0, 1) := by decide +kernel
theorem dL_law_663 : decode cL_law 663 = .ok (.laload, 1) := by decide +kernel
theorem dL_law_664 : decode cL_law 664 = .ok (.iload 7, 2) := by decide +kernel
theorem dL_law_666 : decode cL_law 666 = .ok (.i2l, 1) := by decide +kernel
theorem dL_law_667 : decode cL_law 667 = .ok (.lcmp, 1) := by decide +kernel
theorem dL_law_668 : decode cL_law 668 = .ok (.ifCond .eq 5, 3) := by decide +kernel
theorem dL_law_671 : decode cL_law 671 = .ok (.iconst 0, 1) := by decide +kernel
theorem dL_law_672 : decode cL_law 672 = .ok (.ireturn, 1) := by decide +kernel
theorem dL_law_673 : decode cL_law 673 = .ok (.goto 1443, 3) := by decide +kernel
theorem dL_law_676 : decode cL_law 676 = .ok (.aload_n 1, 1) := by decide +kernel
theorem dL_law_677 : decode cL_law 677 = .ok (.invokevirtual 155, 3) := by decide +kernel
theorem dL_law_680 : decode cL_law 680 = .ok (.aload_n 2, 1) := by decide +kernel
theorem dL_law_681 : decode cL_law 681 = .ok (.invokevirtual 158, 3) := by decide +kernel
theorem dL_law_684 : decode cL_law 684 = .ok (.if_icmp .eq 1432, 3) := by decide +kernel
theorem dL_law_687 : decode cL_law 687 = .ok (.iconst 0, 1) := by decide +kernel
theorem dL_law_688 : decode cL_law 688 = .ok (.ireturn, 1) := by decide +kernel
theorem dL_law_689 : decode cL_law 689 = .ok (.aload_n 1, 1) := by decide +kernel
theorem dL_law_690 : decode cL_law 690 = .ok (.invokevirtual 159, 3) := by decide +kernel
theorem dL_law_693 : decode cL_law 693 = .ok (.aload_n 2, 1) := by decide +kernel
theorem dL_law_694 : decode cL_law 694 = .ok (.invokevirtual 162, 3) := by decide +kernel
theorem dL_law_697 : decode cL_law 697 = .ok (.if_icmp .eq 1419, 3) := by decide +kernel
theorem dL_law_700 : decode cL_law 700 = .ok (.iconst 0, 1) := by decide +kernel
theorem dL_law_701 : decode cL_law 701 = .ok (.ireturn, 1) := by decide +kernel
theorem dL_law_702 : decode cL_law 702 = .ok (.aload_n 1, 1) := by decide +kernel
theorem dL_law_703 : decode cL_law 703 = .ok (.invokevirtual 163, 3) := by decide +kernel
theorem dL_law_706 : decode cL_law 706 = .ok (.aload_n 2, 1) := by decide +kernel
theorem dL_law_707 : decode cL_law 707 = .ok (.invokevirtual 166, 3) := by decide +kernel
theorem dL_law_710 : decode cL_law 710 = .ok (.if_icmp .eq 1406, 3) := by decide +kernel
theorem dL_law_713 : decode cL_law 713 = .ok (.iconst 0, 1) := by decide +kernel
theorem dL_law_714 : decode cL_law 714 = .ok (.ireturn, 1) := by decide +kernel
theorem dL_law_715 : decode cL_law 715 = .ok (.aload_n 1, 1) := by decide +kernel
theorem dL_law_716 : decode cL_law 716 = .ok (.aload_n 0, 1) := by decide +kernel
theorem dL_law_717 : decode cL_law 717 = .ok (.iload 5, 2) := by decide +kernel
theorem dL_law_719 : decode cL_law 719 = .ok (.iconst 1, 1) := by decide +kernel
theorem dL_law_720 : decode cL_law 720 = .ok (.iadd, 1) := by decide +kernel
theorem dL_law_721 : decode cL_law 721 = .ok (.iaload, 1) := by decide +kernel
theorem dL_law_722 : decode cL_law 722 = .ok (.aload_n 3, 1) := by decide +kernel
theorem dL_law_723 : decode cL_law 723 = .ok (.invokestatic 167, 3) := by decide +kernel
theorem dL_law_726 : decode cL_law 726 = .ok (.istore 6, 2) := by decide +kernel
theorem dL_law_728 : decode cL_law 728 = .ok (.aload_n 2, 1) := by decide +kernel
theorem dL_law_729 : decode cL_law 729 = .ok (.aload_n 0, 1) := by decide +kernel
theorem dL_law_730 : decode cL_law 730 = .ok (.iload 5, 2) := by decide +kernel
theorem dL_law_732 : decode cL_law 732 = .ok (.iconst 1, 1) := by decide +kernel
theorem dL_law_733 : decode cL_law 733 = .ok (.iadd, 1) := by decide +kernel
theorem dL_law_734 : decode cL_law 734 = .ok (.iaload, 1) := by decide +kernel
theorem dL_law_735 : decode cL_law 735 = .ok (.invokevirtual 169, 3) := by decide +kernel
theorem dL_law_738 : decode cL_law 738 = .ok (.istore 7, 2) := by decide +kernel
theorem dL_law_740 : decode cL_law 740 = .ok (.aload_n 2, 1) := by decide +kernel
theorem dL_law_741 : decode cL_law 741 = .ok (.invokevirtual 132, 3) := by decide +kernel
theorem dL_law_744 : decode cL_law 744 = .ok (.iload 6, 2) := by decide +kernel
theorem dL_law_746 : decode cL_law 746 = .ok (.if_icmp .eq 5, 3) := by decide +kernel
theorem dL_law_749 : decode cL_law 749 = .ok (.iconst 0, 1) := by decide +kernel
theorem dL_law_750 : decode cL_law 750 = .ok (.ireturn, 1) := by decide +kernel
theorem dL_law_751 : decode cL_law 751 = .ok (.iload 6, 2) := by decide +kernel
theorem dL_law_753 : decode cL_law 753 = .ok (.ifCond .ne 15, 3) := by decide +kernel
theorem dL_law_756 : decode cL_law 756 = .ok (.aload_n 3, 1) := by decide +kernel
theorem dL_law_757 : decode cL_law 757 = .ok (.iconst 0, 1) := by decide +kernel
theorem dL_law_758 : decode cL_law 758 = .ok (.laload, 1) := by decide +kernel
theorem dL_law_759 : decode cL_law 759 = .ok (.iload 7, 2) := by decide +kernel
theorem dL_law_761 : decode cL_law 761 = .ok (.i2l, 1) := by decide +kernel
theorem dL_law_762 : decode cL_law 762 = .ok (.lcmp, 1) := by decide +kernel
theorem dL_law_763 : decode cL_law 763 = .ok (.ifCond .eq 5, 3) := by decide +kernel
theorem dL_law_766 : decode cL_law 766 = .ok (.iconst 0, 1) := by decide +kernel
theorem dL_law_767 : decode cL_law 767 = .ok (.ireturn, 1) := by decide +kernel
theorem dL_law_768 : decode cL_law 768 = .ok (.goto 1348, 3) := by decide +kernel
theorem dL_law_771 : decode cL_law 771 = .ok (.aload_n 1, 1) := by decide +kernel
theorem dL_law_772 : decode cL_law 772 = .ok (.aload_n 0, 1) := by decide +kernel
theorem dL_law_773 : decode cL_law 773 = .ok (.iload 5, 2) := by decide +kernel
theorem dL_law_775 : decode cL_law 775 = .ok (.iconst 1, 1) := by decide +kernel
theorem dL_law_776 : decode cL_law 776 = .ok (.iadd, 1) := by decide +kernel
theorem dL_law_777 : decode cL_law 777 = .ok (.iaload, 1) := by decide +kernel
theorem dL_law_778 : decode cL_law 778 = .ok (.aload_n 3, 1) := by decide +kernel
theorem dL_law_779 : decode cL_law 779 = .ok (.invokestatic 170, 3) := by decide +kernel
theorem dL_law_782 : decode cL_law 782 = .ok (.istore 6, 2) := by decide +kernel
theorem dL_law_784 : decode cL_law 784 = .ok (.aload_n 2, 1) := by decide +kernel
theorem dL_law_785 : decode cL_law 785 = .ok (.aload_n 0, 1) := by decide +kernel
theorem dL_law_786 : decode cL_law 786 = .ok (.iload 5, 2) := by decide +kernel
theorem dL_law_788 : decode cL_law 788 = .ok (.iconst 1, 1) := by decide +kernel
theorem dL_law_789 : decode cL_law 789 = .ok (.iadd, 1) := by decide +kernel
theorem dL_law_790 : decode cL_law 790 = .ok (.iaload, 1) := by decide +kernel
theorem dL_law_791 : decode cL_law 791 = .ok (.invokevirtual 172, 3) := by decide +kernel
theorem dL_law_794 : decode cL_law 794 = .ok (.istore 7, 2) := by decide +kernel
theorem dL_law_796 : decode cL_law 796 = .ok (.aload_n 2, 1) := by decide +kernel
theorem dL_law_797 : decode cL_law 797 = .ok (.invokevirtual 132, 3) := by decide +kernel
theorem dL_law_800 : decode cL_law 800 = .ok (.iload 6, 2) := by decide +kernel
theorem dL_law_802 : decode cL_law 802 = .ok (.if_icmp .eq 5, 3) := by decide +kernel
theorem dL_law_805 : decode cL_law 805 = .ok (.iconst 0, 1) := by decide +kernel
theorem dL_law_806 : decode cL_law 806 = .ok (.ireturn, 1) := by decide +kernel
theorem dL_law_807 : decode cL_law 807 = .ok (.iload 6, 2) := by decide +kernel
theorem dL_law_809 : decode cL_law 809 = .ok (.ifCond .ne 15, 3) := by decide +kernel
theorem dL_law_812 : decode cL_law 812 = .ok (.aload_n 3, 1) := by decide +kernel
theorem dL_law_813 : decode cL_law 813 = .ok (.iconst 0, 1) := by decide +kernel
theorem dL_law_814 : decode cL_law 814 = .ok (.laload, 1) := by decide +kernel
theorem dL_law_815 : decode cL_law 815 = .ok (.iload 7, 2) := by decide +kernel
theorem dL_law_817 : decode cL_law 817 = .ok (.i2l, 1) := by decide +kernel
theorem dL_law_818 : decode cL_law 818 = .ok (.lcmp, 1) := by decide +kernel
theorem dL_law_819 : decode cL_law 819 = .ok (.ifCond .eq 5, 3) := by decide +kernel
theorem dL_law_822 : decode cL_law 822 = .ok (.iconst 0, 1) := by decide +kernel
theorem dL_law_823 : decode cL_law 823 = .ok (.ireturn, 1) := by decide +kernel
theorem dL_law_824 : decode cL_law 824 = .ok (.goto 1292, 3) := by decide +kernel
theorem dL_law_827 : decode cL_law 827 = .ok (.aload_n 1, 1) := by decide +kernel
theorem dL_law_828 : decode cL_law 828 = .ok (.aload_n 0, 1) := by decide +kernel
theorem dL_law_829 : decode cL_law 829 = .ok (.iload 5, 2) := by decide +kernel
theorem dL_law_831 : decode cL_law 831 = .ok (.iconst 1, 1) := by decide +kernel
theorem dL_law_832 : decode cL_law 832 = .ok (.iadd, 1) := by decide +kernel
theorem dL_law_833 : decode cL_law 833 = .ok (.iaload, 1) := by decide +kernel
theorem dL_law_834 : decode cL_law 834 = .ok (.aload_n 3, 1) := by decide +kernel
theorem dL_law_835 : decode cL_law 835 = .ok (.invokestatic 173, 3) := by decide +kernel
theorem dL_law_838 : decode cL_law 838 = .ok (.istore 6, 2) := by decide +kernel
theorem dL_law_840 : decode cL_law 840 = .ok (.aload_n 2, 1) := by decide +kernel
theorem dL_law_841 : decode cL_law 841 = .ok (.aload_n 0, 1) := by decide +kernel
theorem dL_law_842 : decode cL_law 842 = .ok (.iload 5, 2) := by decide +kernel
theorem dL_law_844 : decode cL_law 844 = .ok (.iconst 1, 1) := by decide +kernel
theorem dL_law_845 : decode cL_law 845 = .ok (.iadd, 1) := by decide +kernel
theorem dL_law_846 : decode cL_law 846 = .ok (.iaload, 1) := by decide +kernel
theorem dL_law_847 : decode cL_law 847 = .ok (.invokevirtual 175, 3) := by decide +kernel
theorem dL_law_850 : decode cL_law 850 = .ok (.istore 7, 2) := by decide +kernel
theorem dL_law_852 : decode cL_law 852 = .ok (.aload_n 2, 1) := by decide +kernel
theorem dL_law_853 : decode cL_law 853 = .ok (.invokevirtual 132, 3) := by decide +kernel
theorem dL_law_856 : decode cL_law 856 = .ok (.iload 6, 2) := by decide +kernel
theorem dL_law_858 : decode cL_law 858 = .ok (.if_icmp .eq 5, 3) := by decide +kernel
theorem dL_law_861 : decode cL_law 861 = .ok (.iconst 0, 1) := by decide +kernel
theorem dL_law_862 : decode cL_law 862 = .ok (.ireturn, 1) := by decide +kernel
theorem dL_law_863 : decode cL_law 863 = .ok (.iload 6, 2) := by decide +kernel
theorem dL_law_865 : decode cL_law 865 = .ok (.ifCond .ne 15, 3) := by decide +kernel
theorem dL_law_868 : decode cL_law 868 = .ok (.aload_n 3, 1) := by decide +kernel
theorem dL_law_869 : decode cL_law 869 = .ok (.iconst 0, 1) := by decide +kernel
theorem dL_law_870 : decode cL_law 870 = .ok (.laload, 1) := by decide +kernel
theorem dL_law_871 : decode cL_law 871 = .ok (.iload 7, 2) := by decide +kernel
theorem dL_law_873 : decode cL_law 873 = .ok (.i2l, 1) := by decide +kernel
theorem dL_law_874 : decode cL_law 874 = .ok (.lcmp, 1) := by decide +kernel
theorem dL_law_875 : decode cL_law 875 = .ok (.ifCond .eq 5, 3) := by decide +kernel
theorem dL_law_878 : decode cL_law 878 = .ok (.iconst 0, 1) := by decide +kernel
theorem dL_law_879 : decode cL_law 879 = .ok (.ireturn, 1) := by decide +kernel
theorem dL_law_880 : decode cL_law 880 = .ok (.goto 1236, 3) := by decide +kernel
theorem dL_law_883 : decode cL_law 883 = .ok (.aload_n 1, 1) := by decide +kernel
theorem dL_law_884 : decode cL_law 884 = .ok (.aload_n 0, 1) := by decide +kernel
theorem dL_law_885 : decode cL_law 885 = .ok (.iload 5, 2) := by decide +kernel
theorem dL_law_887 : decode cL_law 887 = .ok (.iconst 1, 1) := by decide +kernel
theorem dL_law_888 : decode cL_law 888 = .ok (.iadd, 1) := by decide +kernel
theorem dL_law_889 : decode cL_law 889 = .ok (.iaload, 1) := by decide +kernel
theorem dL_law_890 : decode cL_law 890 = .ok (.aload_n 3, 1) := by decide +kernel
theorem dL_law_891 : decode cL_law 891 = .ok (.invokestatic 176, 3) := by decide +kernel
theorem dL_law_894 : decode cL_law 894 = .ok (.istore 6, 2) := by decide +kernel
theorem dL_law_896 : decode cL_law 896 = .ok (.aload_n 2, 1) := by decide +kernel
theorem dL_law_897 : decode cL_law 897 = .ok (.aload_n 0, 1) := by decide +kernel
theorem dL_law_898 : decode cL_law 898 = .ok (.iload 5, 2) := by decide +kernel
theorem dL_law_900 : decode cL_law 900 = .ok (.iconst 1, 1) := by decide +kernel
theorem dL_law_901 : decode cL_law 901 = .ok (.iadd, 1) := by decide +kernel
theorem dL_law_902 : decode cL_law 902 = .ok (.iaload, 1) := by decide +kernel
theorem dL_law_903 : decode cL_law 903 = .ok (.invokevirtual 178, 3) := by decide +kernel
theorem dL_law_906 : decode cL_law 906 = .ok (.istore 7, 2) := by decide +kernel
theorem dL_law_908 : decode cL_law 908 = .ok (.aload_n 2, 1) := by decide +kernel
theorem dL_law_909 : decode cL_law 909 = .ok (.invokevirtual 132, 3) := by decide +kernel
theorem dL_law_912 : decode cL_law 912 = .ok (.iload 6, 2) := by decide +kernel
theorem dL_law_914 : decode cL_law 914 = .ok (.if_icmp .eq 5, 3) := by decide +kernel
theorem dL_law_917 : decode cL_law 917 = .ok (.iconst 0, 1) := by decide +kernel
theorem dL_law_918 : decode cL_law 918 = .ok (.ireturn, 1) := by decide +kernel
theorem dL_law_919 : decode cL_law 919 = .ok (.iload 6, 2) := by decide +kernel
theorem dL_law_921 : decode cL_law 921 = .ok (.ifCond .ne 15, 3) := by decide +kernel
theorem dL_law_924 : decode cL_law 924 = .ok (.aload_n 3, 1) := by decide +kernel
theorem dL_law_925 : decode cL_law 925 = .ok (.iconst 0, 1) := by decide +kernel
theorem dL_law_926 : decode cL_law 926 = .ok (.laload, 1) := by decide +kernel
theorem dL_law_927 : decode cL_law 927 = .ok (.iload 7, 2) := by decide +kernel
theorem dL_law_929 : decode cL_law 929 = .ok (.i2l, 1) := by decide +kernel
theorem dL_law_930 : decode cL_law 930 = .ok (.lcmp, 1) := by decide +kernel
theorem dL_law_931 : decode cL_law 931 = .ok (.ifCond .eq 5, 3) := by decide +kernel
theorem dL_law_934 : decode cL_law 934 = .ok (.iconst 0, 1) := by decide +kernel
theorem dL_law_935 : decode cL_law 935 = .ok (.ireturn, 1) := by decide +kernel
theorem dL_law_936 : decode cL_law 936 = .ok (.goto 1180, 3) := by decide +kernel
theorem dL_law_939 : decode cL_law 939 = .ok (.aload_n 1, 1) := by decide +kernel
theorem dL_law_940 : decode cL_law 940 = .ok (.aload_n 0, 1) := by decide +kernel
theorem dL_law_941 : decode cL_law 941 = .ok (.iload 5, 2) := by decide +kernel
theorem dL_law_943 : decode cL_law 943 = .ok (.iconst 1, 1) := by decide +kernel
theorem dL_law_944 : decode cL_law 944 = .ok (.iadd, 1) := by decide +kernel
theorem dL_law_945 : decode cL_law 945 = .ok (.iaload, 1) := by decide +kernel
theorem dL_law_946 : decode cL_law 946 = .ok (.aload_n 3, 1) := by decide +kernel
theorem dL_law_947 : decode cL_law 947 = .ok (.invokestatic 179, 3) := by decide +kernel
theorem dL_law_950 : decode cL_law 950 = .ok (.istore 6, 2) := by decide +kernel
theorem dL_law_952 : decode cL_law 952 = .ok (.aload_n 2, 1) := by decide +kernel
theorem dL_law_953 : decode cL_law 953 = .ok (.aload_n 0, 1) := by decide +kernel
theorem dL_law_954 : decode cL_law 954 = .ok (.iload 5, 2) := by decide +kernel
theorem dL_law_956 : decode cL_law 956 = .ok (.iconst 1, 1) := by decide +kernel
theorem dL_law_957 : decode cL_law 957 = .ok (.iadd, 1) := by decide +kernel
theorem dL_law_958 : decode cL_law 958 = .ok (.iaload, 1) := by decide +kernel
theorem dL_law_959 : decode cL_law 959 = .ok (.invokevirtual 181, 3) := by decide +kernel
theorem dL_law_962 : decode cL_law 962 = .ok (.istore 7, 2) := by decide +kernel
theorem dL_law_964 : decode cL_law 964 = .ok (.aload_n 2, 1) := by decide +kernel
theorem dL_law_965 : decode cL_law 965 = .ok (.invokevirtual 132, 3) := by decide +kernel
theorem dL_law_968 : decode cL_law 968 = .ok (.iload 6, 2) := by decide +kernel
theorem dL_law_970 : decode cL_law 970 = .ok (.if_icmp .eq 5, 3) := by decide +kernel
theorem dL_law_973 : decode cL_law 973 = .ok (.iconst 0, 1) := by decide +kernel
theorem dL_law_974 : decode cL_law 974 = .ok (.ireturn, 1) := by decide +kernel
theorem dL_law_975 : decode cL_law 975 = .ok (.iload 6, 2) := by decide +kernel
theorem dL_law_977 : decode cL_law 977 = .ok (.ifCond .ne 22, 3) := by decide +kernel
theorem dL_law_980 : decode cL_law 980 = .ok (.aload_n 3, 1) := by decide +kernel
theorem dL_law_981 : decode cL_law 981 = .ok (.iconst 0, 1) := by decide +kernel
theorem dL_law_982 : decode cL_law 982 = .ok (.laload, 1) := by decide +kernel
theorem dL_law_983 : decode cL_law 983 = .ok (.iload 7, 2) := by decide +kernel
theorem dL_law_985 : decode cL_law 985 = .ok (.ifCond .eq 7, 3) := by decide +kernel
theorem dL_law_988 : decode cL_law 988 = .ok (.lconst 1, 1) := by decide +kernel
theorem dL_law_989 : decode cL_law 989 = .ok (.goto 4, 3) := by decide +kernel
theorem dL_law_992 : decode cL_law 992 = .ok (.lconst 0, 1) := by decide +kernel
theorem dL_law_993 : decode cL_law 993 = .ok (.lcmp, 1) := by decide +kernel
theorem dL_law_994 : decode cL_law 994 = .ok (.ifCond .eq 5, 3) := by decide +kernel
theorem dL_law_997 : decode cL_law 997 = .ok (.iconst 0, 1) := by decide +kernel
theorem dL_law_998 : decode cL_law 998 = .ok (.ireturn, 1) := by decide +kernel
theorem dL_law_999 : decode cL_law 999 = .ok (.goto 1117, 3) := by decide +kernel
theorem dL_law_1002 : decode cL_law 1002 = .ok (.aload_n 1, 1) := by decide +kernel
theorem dL_law_1003 : decode cL_law 1003 = .ok (.invokevirtual 182, 3) := by decide +kernel
theorem dL_law_1006 : decode cL_law 1006 = .ok (.aload_n 2, 1) := by decide +kernel
theorem dL_law_1007 : decode cL_law 1007 = .ok (.invokevirtual 185, 3) := by decide +kernel
theorem dL_law_1010 : decode cL_law 1010 = .ok (.if_icmp .eq 1106, 3) := by decide +kernel
theorem dL_law_1013 : decode cL_law 1013 = .ok (.iconst 0, 1) := by decide +kernel
theorem dL_law_1014 : decode cL_law 1014 = .ok (.ireturn, 1) := by decide +kernel
theorem dL_law_1015 : decode cL_law 1015 = .ok (.aload_n 1, 1) := by decide +kernel
theorem dL_law_1016 : decode cL_law 1016 = .ok (.aload_n 0, 1) := by decide +kernel
theorem dL_law_1017 : decode cL_law 1017 = .ok (.iload 5, 2) := by decide +kernel
theorem dL_law_1019 : decode cL_law 1019 = .ok (.iconst 1, 1) := by decide +kernel
theorem dL_law_1020 : decode cL_law 1020 = .ok (.iadd, 1) := by decide +kernel
theorem dL_law_1021 : decode cL_law 1021 = .ok (.iaload, 1) := by decide +kernel
theorem dL_law_1022 : decode cL_law 1022 = .ok (.aload_n 3, 1) := by decide +kernel
theorem dL_law_1023 : decode cL_law 1023 = .ok (.invokestatic 186, 3) := by decide +kernel
theorem dL_law_1026 : decode cL_law 1026 = .ok (.istore 6, 2) := by decide +kernel
theorem dL_law_1028 : decode cL_law 1028 = .ok (.aload_n 2, 1) := by decide +kernel
theorem dL_law_1029 : decode cL_law 1029 = .ok (.aload_n 0, 1) := by decide +kernel
theorem dL_law_1030 : decode cL_law 1030 = .ok (.iload 5, 2) := by decide +kernel
theorem dL_law_1032 : decode cL_law 1032 = .ok (.iconst 1, 1) := by decide +kernel
theorem dL_law_1033 : decode cL_law 1033 = .ok (.iadd, 1) := by decide +kernel
theorem dL_law_1034 : decode cL_law 1034 = .ok (.iaload, 1) := by decide +kernel
theorem dL_law_1035 : decode cL_law 1035 = .ok (.invokevirtual 188, 3) := by decide +kernel
theorem dL_law_1038 : decode cL_law 1038 = .ok (.istore 7, 2) := by decide +kernel
theorem dL_law_1040 : decode cL_law 1040 = .ok (.aload_n 2, 1) := by decide +kernel
theorem dL_law_1041 : decode cL_law 1041 = .ok (.invokevirtual 132, 3) := by decide +kernel
theorem dL_law_1044 : decode cL_law 1044 = .ok (.iload 6, 2) := by decide +kernel
theorem dL_law_1046 : decode cL_law 1046 = .ok (.if_icmp .eq 5, 3) := by decide +kernel
theorem dL_law_1049 : decode cL_law 1049 = .ok (.iconst 0, 1) := by decide +kernel
theorem dL_law_1050 : decode cL_law 1050 = .ok (.ireturn, 1) := by decide +kernel
theorem dL_law_1051 : decode cL_law 1051 = .ok (.iload 6, 2) := by decide +kernel
theorem dL_law_1053 : decode cL_law 1053 = .ok (.ifCond .ne 15, 3) := by decide +kernel
theorem dL_law_1056 : decode cL_law 1056 = .ok (.aload_n 3, 1) := by decide +kernel
theorem dL_law_1057 : decode cL_law 1057 = .ok (.iconst 0, 1) := by decide +kernel
theorem dL_law_1058 : decode cL_law 1058 = .ok (.laload, 1) := by decide +kernel
theorem dL_law_1059 : decode cL_law 1059 = .ok (.iload 7, 2) := by decide +kernel
theorem dL_law_1061 : decode cL_law 1061 = .ok (.i2l, 1) := by decide +kernel
theorem dL_law_1062 : decode cL_law 1062 = .ok (.lcmp, 1) := by decide +kernel
theorem dL_law_1063 : decode cL_law 1063 = .ok (.ifCond .eq 5, 3) := by decide +kernel
theorem dL_law_1066 : decode cL_law 1066 = .ok (.iconst 0, 1) := by decide +kernel
theorem dL_law_1067 : decode cL_law 1067 = .ok (.ireturn, 1) := by decide +kernel
theorem dL_law_1068 : decode cL_law 1068 = .ok (.goto 1048, 3) := by decide +kernel
theorem dL_law_1071 : decode cL_law 1071 = .ok (.aload_n 1, 1) := by decide +kernel
theorem dL_law_1072 : decode cL_law 1072 = .ok (.invokevirtual 189, 3) := by decide +kernel
theorem dL_law_1075 : decode cL_law 1075 = .ok (.aload_n 2, 1) := by decide +kernel
theorem dL_law_1076 : decode cL_law 1076 = .ok (.invokevirtual 192, 3) := by decide +kernel
theorem dL_law_1079 : decode cL_law 1079 = .ok (.if_icmp .eq 1037, 3) := by decide +kernel
theorem dL_law_1082 : decode cL_law 1082 = .ok (.iconst 0, 1) := by decide +kernel
theorem dL_law_1083 : decode cL_law 1083 = .ok (.ireturn, 1) := by decide +kernel
theorem dL_law_1084 : decode cL_law 1084 = .ok (.aload_n 1, 1) := by decide +kernel
theorem dL_law_1085 : decode cL_law 1085 = .ok (.aload_n 0, 1) := by decide +kernel
theorem dL_law_1086 : decode cL_law 1086 = .ok (.iload 5, 2) := by decide +kernel
theorem dL_law_1088 : decode cL_law 1088 = .ok (.iconst 1, 1) := by decide +kernel
theorem dL_law_1089 : decode cL_law 1089 = .ok (.iadd, 1) := by decide +kernel
theorem dL_law_1090 : decode cL_law 1090 = .ok (.iaload, 1) := by decide +kernel
theorem dL_law_1091 : decode cL_law 1091 = .ok (.aload_n 3, 1) := by decide +kernel
theorem dL_law_1092 : decode cL_law 1092 = .ok (.invokestatic 193, 3) := by decide +kernel
theorem dL_law_1095 : decode cL_law 1095 = .ok (.istore 6, 2) := by decide +kernel
theorem dL_law_1097 : decode cL_law 1097 = .ok (.aload_n 2, 1) := by decide +kernel
theorem dL_law_1098 : decode cL_law 1098 = .ok (.aload_n 0, 1) := by decide +kernel
theorem dL_law_1099 : decode cL_law 1099 = .ok (.iload 5, 2) := by decide +kernel
theorem dL_law_1101 : decode cL_law 1101 = .ok (.iconst 1, 1) := by decide +kernel
theorem dL_law_1102 : decode cL_law 1102 = .ok (.iadd, 1) := by decide +kernel
theorem dL_law_1103 : decode cL_law 1103 = .ok (.iaload, 1) := by decide +kernel
theorem dL_law_1104 : decode cL_law 1104 = .ok (.invokevirtual 195, 3) := by decide +kernel
theorem dL_law_1107 : decode cL_law 1107 = .ok (.istore 7, 2) := by decide +kernel
theorem dL_law_1109 : decode cL_law 1109 = .ok (.aload_n 2, 1) := by decide +kernel
theorem dL_law_1110 : decode cL_law 1110 = .ok (.invokevirtual 132, 3) := by decide +kernel
theorem dL_law_1113 : decode cL_law 1113 = .ok (.iload 6, 2) := by decide +kernel
theorem dL_law_1115 : decode cL_law 1115 = .ok (.if_icmp .eq 5, 3) := by decide +kernel
theorem dL_law_1118 : decode cL_law 1118 = .ok (.iconst 0, 1) := by decide +kernel
theorem dL_law_1119 : decode cL_law 1119 = .ok (.ireturn, 1) := by decide +kernel
theorem dL_law_1120 : decode cL_law 1120 = .ok (.iload 6, 2) := by decide +kernel
theorem dL_law_1122 : decode cL_law 1122 = .ok (.ifCond .ne 15, 3) := by decide +kernel
theorem dL_law_1125 : decode cL_law 1125 = .ok (.aload_n 3, 1) := by decide +kernel
theorem dL_law_1126 : decode cL_law 1126 = .ok (.iconst 0, 1) := by decide +kernel
theorem dL_law_1127 : decode cL_law 1127 = .ok (.laload, 1) := by decide +kernel
theorem dL_law_1128 : decode cL_law 1128 = .ok (.iload 7, 2) := by decide +kernel
theorem dL_law_1130 : decode cL_law 1130 = .ok (.i2l, 1) := by decide +kernel
theorem dL_law_1131 : decode cL_law 1131 = .ok (.lcmp, 1) := by decide +kernel
theorem dL_law_1132 : decode cL_law 1132 = .ok (.ifCond .eq 5, 3) := by decide +kernel
theorem dL_law_1135 : decode cL_law 1135 = .ok (.iconst 0, 1) := by decide +kernel
theorem dL_law_1136 : decode cL_law 1136 = .ok (.ireturn, 1) := by decide +kernel
theorem dL_law_1137 : decode cL_law 1137 = .ok (.goto 979, 3) := by decide +kernel
theorem dL_law_1140 : decode cL_law 1140 = .ok (.aload_n 1, 1) := by decide +kernel
theorem dL_law_1141 : decode cL_law 1141 = .ok (.invokevirtual 196, 3) := by decide +kernel
theorem dL_law_1144 : decode cL_law 1144 = .ok (.aload_n 2, 1) := by decide +kernel
theorem dL_law_1145 : decode cL_law 1145 = .ok (.invokevirtual 199, 3) := by decide +kernel
theorem dL_law_1148 : decode cL_law 1148 = .ok (.if_icmp .eq 968, 3) := by decide +kernel
theorem dL_law_1151 : decode cL_law 1151 = .ok (.iconst 0, 1) := by decide +kernel
theorem dL_law_1152 : decode cL_law 1152 = .ok (.ireturn, 1) := by decide +kernel
theorem dL_law_1153 : decode cL_law 1153 = .ok (.aload_n 1, 1) := by decide +kernel
theorem dL_law_1154 : decode cL_law 1154 = .ok (.aload_n 0, 1) := by decide +kernel
theorem dL_law_1155 : decode cL_law 1155 = .ok (.iload 5, 2) := by decide +kernel
theorem dL_law_1157 : decode cL_law 1157 = .ok (.iconst 1, 1) := by decide +kernel
theorem dL_law_1158 : decode cL_law 1158 = .ok (.iadd, 1) := by decide +kernel
theorem dL_law_1159 : decode cL_law 1159 = .ok (.iaload, 1) := by decide +kernel
theorem dL_law_1160 : decode cL_law 1160 = .ok (.aload_n 3, 1) := by decide +kernel
theorem dL_law_1161 : decode cL_law 1161 = .ok (.invokestatic 200, 3) := by decide +kernel
theorem dL_law_1164 : decode cL_law 1164 = .ok (.istore 6, 2) := by decide +kernel
theorem dL_law_1166 : decode cL_law 1166 = .ok (.aload_n 2, 1) := by decide +kernel
theorem dL_law_1167 : decode cL_law 1167 = .ok (.aload_n 0, 1) := by decide +kernel
theorem dL_law_1168 : decode cL_law 1168 = .ok (.iload 5, 2) := by decide +kernel
theorem dL_law_1170 : decode cL_law 1170 = .ok (.iconst 1, 1) := by decide +kernel
theorem dL_law_1171 : decode cL_law 1171 = .ok (.iadd, 1) := by decide +kernel
theorem dL_law_1172 : decode cL_law 1172 = .ok (.iaload, 1) := by decide +kernel
theorem dL_law_1173 : decode cL_law 1173 = .ok (.invokevirtual 202, 3) := by decide +kernel
theorem dL_law_1176 : decode cL_law 1176 = .ok (.istore 7, 2) := by decide +kernel
theorem dL_law_1178 : decode cL_law 1178 = .ok (.aload_n 2, 1) := by decide +kernel
theorem dL_law_1179 : decode cL_law 1179 = .ok (.invokevirtual 132, 3) := by decide +kernel
theorem dL_law_1182 : decode cL_law 1182 = .ok (.iload 6, 2) := by decide +kernel
theorem dL_law_1184 : decode cL_law 1184 = .ok (.if_icmp .eq 5, 3) := by decide +kernel
theorem dL_law_1187 : decode cL_law 1187 = .ok (.iconst 0, 1) := by decide +kernel
theorem dL_law_1188 : decode cL_law 1188 = .ok (.ireturn, 1) := by decide +kernel
theorem dL_law_1189 : decode cL_law 1189 = .ok (.iload 6, 2) := by decide +kernel
theorem dL_law_1191 : decode cL_law 1191 = .ok (.ifCond .ne 15, 3) := by decide +kernel
theorem dL_law_1194 : decode cL_law 1194 = .ok (.aload_n 3, 1) := by decide +kernel
theorem dL_law_1195 : decode cL_law 1195 = .ok (.iconst 0, 1) := by decide +kernel
theorem dL_law_1196 : decode cL_law 1196 = .ok (.laload, 1) := by decide +kernel
theorem dL_law_1197 : decode cL_law 1197 = .ok (.iload 7, 2) := by decide +kernel
theorem dL_law_1199 : decode cL_law 1199 = .ok (.i2l, 1) := by decide +kernel
theorem dL_law_1200 : decode cL_law 1200 = .ok (.lcmp, 1) := by decide +kernel
theorem dL_law_1201 : decode cL_law 1201 = .ok (.ifCond .eq 5, 3) := by decide +kernel
theorem dL_law_1204 : decode cL_law 1204 = .ok (.iconst 0, 1) := by decide +kernel
theorem dL_law_1205 : decode cL_law 1205 = .ok (.ireturn, 1) := by decide +kernel
theorem dL_law_1206 : decode cL_law 1206 = .ok (.goto 910, 3) := by decide +kernel
theorem dL_law_1209 : decode cL_law 1209 = .ok (.aload_n 1, 1) := by decide +kernel
theorem dL_law_1210 : decode cL_law 1210 = .ok (.aload_n 0, 1) := by decide +kernel
theorem dL_law_1211 : decode cL_law 1211 = .ok (.iload 5, 2) := by decide +kernel
theorem dL_law_1213 : decode cL_law 1213 = .ok (.iconst 1, 1) := by decide +kernel
theorem dL_law_1214 : decode cL_law 1214 = .ok (.iadd, 1) := by decide +kernel
theorem dL_law_1215 : decode cL_law 1215 = .ok (.iaload, 1) := by decide +kernel
theorem dL_law_1216 : decode cL_law 1216 = .ok (.aload_n 3, 1) := by decide +kernel
theorem dL_law_1217 : decode cL_law 1217 = .ok (.invokestatic 203, 3) := by decide +kernel
theorem dL_law_1220 : decode cL_law 1220 = .ok (.istore 6, 2) := by decide +kernel
theorem dL_law_1222 : decode cL_law 1222 = .ok (.aload_n 2, 1) := by decide +kernel
theorem dL_law_1223 : decode cL_law 1223 = .ok (.aload_n 0, 1) := by decide +kernel
theorem dL_law_1224 : decode cL_law 1224 = .ok (.iload 5, 2) := by decide +kernel
theorem dL_law_1226 : decode cL_law 1226 = .ok (.iconst 1, 1) := by decide +kernel
theorem dL_law_1227 : decode cL_law 1227 = .ok (.iadd, 1) := by decide +kernel
theorem dL_law_1228 : decode cL_law 1228 = .ok (.iaload, 1) := by decide +kernel
theorem dL_law_1229 : decode cL_law 1229 = .ok (.invokevirtual 205, 3) := by decide +kernel
theorem dL_law_1232 : decode cL_law 1232 = .ok (.istore 7, 2) := by decide +kernel
theorem dL_law_1234 : decode cL_law 1234 = .ok (.aload_n 2, 1) := by decide +kernel
theorem dL_law_1235 : decode cL_law 1235 = .ok (.invokevirtual 132, 3) := by decide +kernel
theorem dL_law_1238 : decode cL_law 1238 = .ok (.iload 6, 2) := by decide +kernel
theorem dL_law_1240 : decode cL_law 1240 = .ok (.if_icmp .eq 5, 3) := by decide +kernel
theorem dL_law_1243 : decode cL_law 1243 = .ok (.iconst 0, 1) := by decide +kernel
theorem dL_law_1244 : decode cL_law 1244 = .ok (.ireturn, 1) := by decide +kernel
theorem dL_law_1245 : decode cL_law 1245 = .ok (.iload 6, 2) := by decide +kernel
theorem dL_law_1247 : decode cL_law 1247 = .ok (.ifCond .ne 15, 3) := by decide +kernel
theorem dL_law_1250 : decode cL_law 1250 = .ok (.aload_n 3, 1) := by decide +kernel
theorem dL_law_1251 : decode cL_law 1251 = .ok (.iconst 0, 1) := by decide +kernel
theorem dL_law_1252 : decode cL_law 1252 = .ok (.laload, 1) := by decide +kernel
theorem dL_law_1253 : decode cL_law 1253 = .ok (.iload 7, 2) := by decide +kernel
theorem dL_law_1255 : decode cL_law 1255 = .ok (.i2l, 1) := by decide +kernel
theorem dL_law_1256 : decode cL_law 1256 = .ok (.lcmp, 1) := by decide +kernel
theorem dL_law_1257 : decode cL_law 1257 = .ok (.ifCond .eq 5, 3) := by decide +kernel
theorem dL_law_1260 : decode cL_law 1260 = .ok (.iconst 0, 1) := by decide +kernel
theorem dL_law_1261 : decode cL_law 1261 = .ok (.ireturn, 1) := by decide +kernel
theorem dL_law_1262 : decode cL_law 1262 = .ok (.goto 854, 3) := by decide +kernel
theorem dL_law_1265 : decode cL_law 1265 = .ok (.aload_n 1, 1) := by decide +kernel
theorem dL_law_1266 : decode cL_law 1266 = .ok (.aload_n 0, 1) := by decide +kernel
theorem dL_law_1267 : decode cL_law 1267 = .ok (.iload 5, 2) := by decide +kernel
theorem dL_law_1269 : decode cL_law 1269 = .ok (.iconst 1, 1) := by decide +kernel
theorem dL_law_1270 : decode cL_law 1270 = .ok (.iadd, 1) := by decide +kernel
theorem dL_law_1271 : decode cL_law 1271 = .ok (.iaload, 1) := by decide +kernel
theorem dL_law_1272 : decode cL_law 1272 = .ok (.aload_n 3, 1) := by decide +kernel
theorem dL_law_1273 : decode cL_law 1273 = .ok (.invokestatic 206, 3) := by decide +kernel
theorem dL_law_1276 : decode cL_law 1276 = .ok (.istore 6, 2) := by decide +kernel
theorem dL_law_1278 : decode cL_law 1278 = .ok (.aload_n 2, 1) := by decide +kernel
theorem dL_law_1279 : decode cL_law 1279 = .ok (.aload_n 0, 1) := by decide +kernel
theorem dL_law_1280 : decode cL_law 1280 = .ok (.iload 5, 2) := by decide +kernel
theorem dL_law_1282 : decode cL_law 1282 = .ok (.iconst 1, 1) := by decide +kernel
theorem dL_law_1283 : decode cL_law 1283 = .ok (.iadd, 1) := by decide +kernel
theorem dL_law_1284 : decode cL_law 1284 = .ok (.iaload, 1) := by decide +kernel
theorem dL_law_1285 : decode cL_law 1285 = .ok (.invokevirtual 208, 3) := by decide +kernel
theorem dL_law_1288 : decode cL_law 1288 = .ok (.istore 7, 2) := by decide +kernel
theorem dL_law_1290 : decode cL_law 1290 = .ok (.aload_n 2, 1) := by decide +kernel
theorem dL_law_1291 : decode cL_law 1291 = .ok (.invokevirtual 132, 3) := by decide +kernel
theorem dL_law_1294 : decode cL_law 1294 = .ok (.iload 6, 2) := by decide +kernel
theorem dL_law_1296 : decode cL_law 1296 = .ok (.if_icmp .eq 5, 3) := by decide +kernel
theorem dL_law_1299 : decode cL_law 1299 = .ok (.iconst 0, 1) := by decide +kernel
theorem dL_law_1300 : decode cL_law 1300 = .ok (.ireturn, 1) := by decide +kernel
theorem dL_law_1301 : decode cL_law 1301 = .ok (.iload 6, 2) := by decide +kernel
theorem dL_law_1303 : decode cL_law 1303 = .ok (.ifCond .ne 15, 3) := by decide +kernel
theorem dL_law_1306 : decode cL_law 1306 = .ok (.aload_n 3, 1) := by decide +kernel
theorem dL_law_1307 : decode cL_law 1307 = .ok (.iconst 0, 1) := by decide +kernel
theorem dL_law_1308 : decode cL_law 1308 = .ok (.laload, 1) := by decide +kernel
theorem dL_law_1309 : decode cL_law 1309 = .ok (.iload 7, 2) := by decide +kernel
theorem dL_law_1311 : decode cL_law 1311 = .ok (.i2l, 1) := by decide +kernel
theorem dL_law_1312 : decode cL_law 1312 = .ok (.lcmp, 1) := by decide +kernel
theorem dL_law_1313 : decode cL_law 1313 = .ok (.ifCond .eq 5, 3) := by decide +kernel
theorem dL_law_1316 : decode cL_law 1316 = .ok (.iconst 0, 1) := by decide +kernel
theorem dL_law_1317 : decode cL_law 1317 = .ok (.ireturn, 1) := by decide +kernel
theorem dL_law_1318 : decode cL_law 1318 = .ok (.goto 798, 3) := by decide +kernel
theorem dL_law_1321 : decode cL_law 1321 = .ok (.aload_n 1, 1) := by decide +kernel
theorem dL_law_1322 : decode cL_law 1322 = .ok (.aload_n 0, 1) := by decide +kernel
theorem dL_law_1323 : decode cL_law 1323 = .ok (.iload 5, 2) := by decide +kernel
theorem dL_law_1325 : decode cL_law 1325 = .ok (.iconst 1, 1) := by decide +kernel
theorem dL_law_1326 : decode cL_law 1326 = .ok (.iadd, 1) := by decide +kernel
theorem dL_law_1327 : decode cL_law 1327 = .ok (.iaload, 1) := by decide +kernel
theorem dL_law_1328 : decode cL_law 1328 = .ok (.aload_n 0, 1) := by decide +kernel
theorem dL_law_1329 : decode cL_law 1329 = .ok (.iload 5, 2) := by decide +kernel
theorem dL_law_1331 : decode cL_law 1331 = .ok (.iconst 2, 1) := by decide +kernel
theorem dL_law_1332 : decode cL_law 1332 = .ok (.iadd, 1) := by decide +kernel
theorem dL_law_1333 : decode cL_law 1333 = .ok (.iaload, 1) := by decide +kernel
theorem dL_law_1334 : decode cL_law 1334 = .ok (.aload_n 3, 1) := by decide +kernel
theorem dL_law_1335 : decode cL_law 1335 = .ok (.invokestatic 209, 3) := by decide +kernel
theorem dL_law_1338 : decode cL_law 1338 = .ok (.istore 6, 2) := by decide +kernel
theorem dL_law_1340 : decode cL_law 1340 = .ok (.aload_n 2, 1) := by decide +kernel
theorem dL_law_1341 : decode cL_law 1341 = .ok (.aload_n 0, 1) := by decide +kernel
theorem dL_law_1342 : decode cL_law 1342 = .ok (.iload 5, 2) := by decide +kernel
theorem dL_law_1344 : decode cL_law 1344 = .ok (.iconst 1, 1) := by decide +kernel
theorem dL_law_1345 : decode cL_law 1345 = .ok (.iadd, 1) := by decide +kernel
theorem dL_law_1346 : decode cL_law 1346 = .ok (.iaload, 1) := by decide +kernel
theorem dL_law_1347 : decode cL_law 1347 = .ok (.aload_n 0, 1) := by decide +kernel
theorem dL_law_1348 : decode cL_law 1348 = .ok (.iload 5, 2) := by decide +kernel
theorem dL_law_1350 : decode cL_law 1350 = .ok (.iconst 2, 1) := by decide +kernel
theorem dL_law_1351 : decode cL_law 1351 = .ok (.iadd, 1) := by decide +kernel
theorem dL_law_1352 : decode cL_law 1352 = .ok (.iaload, 1) := by decide +kernel
theorem dL_law_1353 : decode cL_law 1353 = .ok (.invokevirtual 211, 3) := by decide +kernel
theorem dL_law_1356 : decode cL_law 1356 = .ok (.istore 7, 2) := by decide +kernel
theorem dL_law_1358 : decode cL_law 1358 = .ok (.aload_n 2, 1) := by decide +kernel
theorem dL_law_1359 : decode cL_law 1359 = .ok (.invokevirtual 132, 3) := by decide +kernel
theorem dL_law_1362 : decode cL_law 1362 = .ok (.iload 6, 2) := by decide +kernel
theorem dL_law_1364 : decode cL_law 1364 = .ok (.if_icmp .eq 5, 3) := by decide +kernel
theorem dL_law_1367 : decode cL_law 1367 = .ok (.iconst 0, 1) := by decide +kernel
theorem dL_law_1368 : decode cL_law 1368 = .ok (.ireturn, 1) := by decide +kernel
theorem dL_law_1369 : decode cL_law 1369 = .ok (.iload 6, 2) := by decide +kernel
theorem dL_law_1371 : decode cL_law 1371 = .ok (.ifCond .ne 22, 3) := by decide +kernel
theorem dL_law_1374 : decode cL_law 1374 = .ok (.aload_n 3, 1) := by decide +kernel
theorem dL_law_1375 : decode cL_law 1375 = .ok (.iconst 0, 1) := by decide +kernel
theorem dL_law_1376 : decode cL_law 1376 = .ok (.laload, 1) := by decide +kernel
theorem dL_law_1377 : decode cL_law 1377 = .ok (.iload 7, 2) := by decide +kernel
theorem dL_law_1379 : decode cL_law 1379 = .ok (.ifCond .eq 7, 3) := by decide +kernel
theorem dL_law_1382 : decode cL_law 1382 = .ok (.lconst 1, 1) := by decide +kernel
theorem dL_law_1383 : decode cL_law 1383 = .ok (.goto 4, 3) := by decide +kernel
theorem dL_law_1386 : decode cL_law 1386 = .ok (.lconst 0, 1) := by decide +kernel
theorem dL_law_1387 : decode cL_law 1387 = .ok (.lcmp, 1) := by decide +kernel
theorem dL_law_1388 : decode cL_law 1388 = .ok (.ifCond .eq 5, 3) := by decide +kernel
theorem dL_law_1391 : decode cL_law 1391 = .ok (.iconst 0, 1) := by decide +kernel
theorem dL_law_1392 : decode cL_law 1392 = .ok (.ireturn, 1) := by decide +kernel
theorem dL_law_1393 : decode cL_law 1393 = .ok (.goto 723, 3) := by decide +kernel
theorem dL_law_1396 : decode cL_law 1396 = .ok (.aload_n 1, 1) := by decide +kernel
theorem dL_law_1397 : decode cL_law 1397 = .ok (.aload_n 0, 1) := by decide +kernel
theorem dL_law_1398 : decode cL_law 1398 = .ok (.iload 5, 2) := by decide +kernel
theorem dL_law_1400 : decode cL_law 1400 = .ok (.iconst 1, 1) := by decide +kernel
theorem dL_law_1401 : decode cL_law 1401 = .ok (.iadd, 1) := by decide +kernel
theorem dL_law_1402 : decode cL_law 1402 = .ok (.iaload, 1) := by decide +kernel
theorem dL_law_1403 : decode cL_law 1403 = .ok (.aload_n 3, 1) := by decide +kernel
theorem dL_law_1404 : decode cL_law 1404 = .ok (.invokestatic 212, 3) := by decide +kernel
theorem dL_law_1407 : decode cL_law 1407 = .ok (.istore 6, 2) := by decide +kernel
theorem dL_law_1409 : decode cL_law 1409 = .ok (.aload_n 2, 1) := by decide +kernel
theorem dL_law_1410 : decode cL_law 1410 = .ok (.aload_n 0, 1) := by decide +kernel
theorem dL_law_1411 : decode cL_law 1411 = .ok (.iload 5, 2) := by decide +kernel
theorem dL_law_1413 : decode cL_law 1413 = .ok (.iconst 1, 1) := by decide +kernel
theorem dL_law_1414 : decode cL_law 1414 = .ok (.iadd, 1) := by decide +kernel
theorem dL_law_1415 : decode cL_law 1415 = .ok (.iaload, 1) := by decide +kernel
theorem dL_law_1416 : decode cL_law 1416 = .ok (.invokevirtual 214, 3) := by decide +kernel
theorem dL_law_1419 : decode cL_law 1419 = .ok (.istore 7, 2) := by decide +kernel
theorem dL_law_1421 : decode cL_law 1421 = .ok (.aload_n 2, 1) := by decide +kernel
theorem dL_law_1422 : decode cL_law 1422 = .ok (.invokevirtual 132, 3) := by decide +kernel
theorem dL_law_1425 : decode cL_law 1425 = .ok (.iload 6, 2) := by decide +kernel
theorem dL_law_1427 : decode cL_law 1427 = .ok (.if_icmp .eq 5, 3) := by decide +kernel
theorem dL_law_1430 : decode cL_law 1430 = .ok (.iconst 0, 1) := by decide +kernel
theorem dL_law_1431 : decode cL_law 1431 = .ok (.ireturn, 1) := by decide +kernel
theorem dL_law_1432 : decode cL_law 1432 = .ok (.iload 6, 2) := by decide +kernel
theorem dL_law_1434 : decode cL_law 1434 = .ok (.ifCond .ne 15, 3) := by decide +kernel
theorem dL_law_1437 : decode cL_law 1437 = .ok (.aload_n 3, 1) := by decide +kernel
theorem dL_law_1438 : decode cL_law 1438 = .ok (.iconst 0, 1) := by decide +kernel
theorem dL_law_1439 : decode cL_law 1439 = .ok (.laload, 1) := by decide +kernel
theorem dL_law_1440 : decode cL_law 1440 = .ok (.iload 7, 2) := by decide +kernel
theorem dL_law_1442 : decode cL_law 1442 = .ok (.i2l, 1) := by decide +kernel
theorem dL_law_1443 : decode cL_law 1443 = .ok (.lcmp, 1) := by decide +kernel
theorem dL_law_1444 : decode cL_law 1444 = .ok (.ifCond .eq 5, 3) := by decide +kernel
theorem dL_law_1447 : decode cL_law 1447 = .ok (.iconst 0, 1) := by decide +kernel
theorem dL_law_1448 : decode cL_law 1448 = .ok (.ireturn, 1) := by decide +kernel
theorem dL_law_1449 : decode cL_law 1449 = .ok (.goto 667, 3) := by decide +kernel
theorem dL_law_1452 : decode cL_law 1452 = .ok (.aload_n 1, 1) := by decide +kernel
theorem dL_law_1453 : decode cL_law 1453 = .ok (.aload_n 0, 1) := by decide +kernel
theorem dL_law_1454 : decode cL_law 1454 = .ok (.iload 5, 2) := by decide +kernel
theorem dL_law_1456 : decode cL_law 1456 = .ok (.iconst 1, 1) := by decide +kernel
theorem dL_law_1457 : decode cL_law 1457 = .ok (.iadd, 1) := by decide +kernel
theorem dL_law_1458 : decode cL_law 1458 = .ok (.iaload, 1) := by decide +kernel
theorem dL_law_1459 : decode cL_law 1459 = .ok (.aload_n 3, 1) := by decide +kernel
theorem dL_law_1460 : decode cL_law 1460 = .ok (.invokestatic 215, 3) := by decide +kernel
theorem dL_law_1463 : decode cL_law 1463 = .ok (.istore 6, 2) := by decide +kernel
theorem dL_law_1465 : decode cL_law 1465 = .ok (.aload_n 2, 1) := by decide +kernel
theorem dL_law_1466 : decode cL_law 1466 = .ok (.aload_n 0, 1) := by decide +kernel
theorem dL_law_1467 : decode cL_law 1467 = .ok (.iload 5, 2) := by decide +kernel
theorem dL_law_1469 : decode cL_law 1469 = .ok (.iconst 1, 1) := by decide +kernel
theorem dL_law_1470 : decode cL_law 1470 = .ok (.iadd, 1) := by decide +kernel
theorem dL_law_1471 : decode cL_law 1471 = .ok (.iaload, 1) := by decide +kernel
theorem dL_law_1472 : decode cL_law 1472 = .ok (.invokevirtual 217, 3) := by decide +kernel
theorem dL_law_1475 : decode cL_law 1475 = .ok (.istore 7, 2) := by decide +kernel
theorem dL_law_1477 : decode cL_law 1477 = .ok (.aload_n 2, 1) := by decide +kernel
theorem dL_law_1478 : decode cL_law 1478 = .ok (.invokevirtual 132, 3) := by decide +kernel
theorem dL_law_1481 : decode cL_law 1481 = .ok (.iload 6, 2) := by decide +kernel
theorem dL_law_1483 : decode cL_law 1483 = .ok (.if_icmp .eq 5, 3) := by decide +kernel
theorem dL_law_1486 : decode cL_law 1486 = .ok (.iconst 0, 1) := by decide +kernel
theorem dL_law_1487 : decode cL_law 1487 = .ok (.ireturn, 1) := by decide +kernel
theorem dL_law_1488 : decode cL_law 1488 = .ok (.iload 6, 2) := by decide +kernel
theorem dL_law_1490 : decode cL_law 1490 = .ok (.ifCond .ne 15, 3) := by decide +kernel
theorem dL_law_1493 : decode cL_law 1493 = .ok (.aload_n 3, 1) := by decide +kernel
theorem dL_law_1494 : decode cL_law 1494 = .ok (.iconst 0, 1) := by decide +kernel
theorem dL_law_1495 : decode cL_law 1495 = .ok (.laload, 1) := by decide +kernel
theorem dL_law_1496 : decode cL_law 1496 = .ok (.iload 7, 2) := by decide +kernel
theorem dL_law_1498 : decode cL_law 1498 = .ok (.i2l, 1) := by decide +kernel
theorem dL_law_1499 : decode cL_law 1499 = .ok (.lcmp, 1) := by decide +kernel
theorem dL_law_1500 : decode cL_law 1500 = .ok (.ifCond .eq 5, 3) := by decide +kernel
theorem dL_law_1503 : decode cL_law 1503 = .ok (.iconst 0, 1) := by decide +kernel
theorem dL_law_1504 : decode cL_law 1504 = .ok (.ireturn, 1) := by decide +kernel
theorem dL_law_1505 : decode cL_law 1505 = .ok (.goto 611, 3) := by decide +kernel
theorem dL_law_1508 : decode cL_law 1508 = .ok (.aload_n 1, 1) := by decide +kernel
theorem dL_law_1509 : decode cL_law 1509 = .ok (.aload_n 0, 1) := by decide +kernel
theorem dL_law_1510 : decode cL_law 1510 = .ok (.iload 5, 2) := by decide +kernel
theorem dL_law_1512 : decode cL_law 1512 = .ok (.iconst 1, 1) := by decide +kernel
theorem dL_law_1513 : decode cL_law 1513 = .ok (.iadd, 1) := by decide +kernel
theorem dL_law_1514 : decode cL_law 1514 = .ok (.iaload, 1) := by decide +kernel
theorem dL_law_1515 : decode cL_law 1515 = .ok (.aload_n 3, 1) := by decide +kernel
theorem dL_law_1516 : decode cL_law 1516 = .ok (.invokestatic 218, 3) := by decide +kernel
theorem dL_law_1519 : decode cL_law 1519 = .ok (.istore 6, 2) := by decide +kernel
theorem dL_law_1521 : decode cL_law 1521 = .ok (.aload_n 2, 1) := by decide +kernel
theorem dL_law_1522 : decode cL_law 1522 = .ok (.aload_n 0, 1) := by decide +kernel
theorem dL_law_1523 : decode cL_law 1523 = .ok (.iload 5, 2) := by decide +kernel
theorem dL_law_1525 : decode cL_law 1525 = .ok (.iconst 1, 1) := by decide +kernel
theorem dL_law_1526 : decode cL_law 1526 = .ok (.iadd, 1) := by decide +kernel
theorem dL_law_1527 : decode cL_law 1527 = .ok (.iaload, 1) := by decide +kernel
theorem dL_law_1528 : decode cL_law 1528 = .ok (.invokevirtual 220, 3) := by decide +kernel
theorem dL_law_1531 : decode cL_law 1531 = .ok (.istore 7, 2) := by decide +kernel
theorem dL_law_1533 : decode cL_law 1533 = .ok (.aload_n 2, 1) := by decide +kernel
theorem dL_law_1534 : decode cL_law 1534 = .ok (.invokevirtual 132, 3) := by decide +kernel
theorem dL_law_1537 : decode cL_law 1537 = .ok (.iload 6, 2) := by decide +kernel
theorem dL_law_1539 : decode cL_law 1539 = .ok (.if_icmp .eq 5, 3) := by decide +kernel
theorem dL_law_1542 : decode cL_law 1542 = .ok (.iconst 0, 1) := by decide +kernel
theorem dL_law_1543 : decode cL_law 1543 = .ok (.ireturn, 1) := by decide +kernel
theorem dL_law_1544 : decode cL_law 1544 = .ok (.iload 6, 2) := by decide +kernel
theorem dL_law_1546 : decode cL_law 1546 = .ok (.ifCond .ne 15, 3) := by decide +kernel
theorem dL_law_1549 : decode cL_law 1549 = .ok (.aload_n 3, 1) := by decide +kernel
theorem dL_law_1550 : decode cL_law 1550 = .ok (.iconst 0, 1) := by decide +kernel
theorem dL_law_1551 : decode cL_law 1551 = .ok (.laload, 1) := by decide +kernel
theorem dL_law_1552 : decode cL_law 1552 = .ok (.iload 7, 2) := by decide +kernel
theorem dL_law_1554 : decode cL_law 1554 = .ok (.i2l, 1) := by decide +kernel
theorem dL_law_1555 : decode cL_law 1555 = .ok (.lcmp, 1) := by decide +kernel
theorem dL_law_1556 : decode cL_law 1556 = .ok (.ifCond .eq 5, 3) := by decide +kernel
theorem dL_law_1559 : decode cL_law 1559 = .ok (.iconst 0, 1) := by decide +kernel
theorem dL_law_1560 : decode cL_law 1560 = .ok (.ireturn, 1) := by decide +kernel
theorem dL_law_1561 : decode cL_law 1561 = .ok (.goto 555, 3) := by decide +kernel
theorem dL_law_1564 : decode cL_law 1564 = .ok (.aload_n 1, 1) := by decide +kernel
theorem dL_law_1565 : decode cL_law 1565 = .ok (.aload_n 0, 1) := by decide +kernel
theorem dL_law_1566 : decode cL_law 1566 = .ok (.iload 5, 2) := by decide +kernel
theorem dL_law_1568 : decode cL_law 1568 = .ok (.iconst 1, 1) := by decide +kernel
theorem dL_law_1569 : decode cL_law 1569 = .ok (.iadd, 1) := by decide +kernel
theorem dL_law_1570 : decode cL_law 1570 = .ok (.iaload, 1) := by decide +kernel
theorem dL_law_1571 : decode cL_law 1571 = .ok (.aload_n 3, 1) := by decide +kernel
theorem dL_law_1572 : decode cL_law 1572 = .ok (.invokestatic 221, 3) := by decide +kernel
theorem dL_law_1575 : decode cL_law 1575 = .ok (.istore 6, 2) := by decide +kernel
theorem dL_law_1577 : decode cL_law 1577 = .ok (.aload_n 2, 1) := by decide +kernel
theorem dL_law_1578 : decode cL_law 1578 = .ok (.aload_n 0, 1) := by decide +kernel
theorem dL_law_1579 : decode cL_law 1579 = .ok (.iload 5, 2) := by decide +kernel
theorem dL_law_1581 : decode cL_law 1581 = .ok (.iconst 1, 1) := by decide +kernel
theorem dL_law_1582 : decode cL_law 1582 = .ok (.iadd, 1) := by decide +kernel
theorem dL_law_1583 : decode cL_law 1583 = .ok (.iaload, 1) := by decide +kernel
theorem dL_law_1584 : decode cL_law 1584 = .ok (.invokevirtual 223, 3) := by decide +kernel
theorem dL_law_1587 : decode cL_law 1587 = .ok (.istore 7, 2) := by decide +kernel
theorem dL_law_1589 : decode cL_law 1589 = .ok (.aload_n 2, 1) := by decide +kernel
theorem dL_law_1590 : decode cL_law 1590 = .ok (.invokevirtual 132, 3) := by decide +kernel
theorem dL_law_1593 : decode cL_law 1593 = .ok (.iload 6, 2) := by decide +kernel
theorem dL_law_1595 : decode cL_law 1595 = .ok (.if_icmp .eq 5, 3) := by decide +kernel
theorem dL_law_1598 : decode cL_law 1598 = .ok (.iconst 0, 1) := by decide +kernel
theorem dL_law_1599 : decode cL_law 1599 = .ok (.ireturn, 1) := by decide +kernel
theorem dL_law_1600 : decode cL_law 1600 = .ok (.iload 6, 2) := by decide +kernel
theorem dL_law_1602 : decode cL_law 1602 = .ok (.ifCond .ne 15, 3) := by decide +kernel
theorem dL_law_1605 : decode cL_law 1605 = .ok (.aload_n 3, 1) := by decide +kernel
theorem dL_law_1606 : decode cL_law 1606 = .ok (.iconst 0, 1) := by decide +kernel
theorem dL_law_1607 : decode cL_law 1607 = .ok (.laload, 1) := by decide +kernel
theorem dL_law_1608 : decode cL_law 1608 = .ok (.iload 7, 2) := by decide +kernel
theorem dL_law_1610 : decode cL_law 1610 = .ok (.i2l, 1) := by decide +kernel
theorem dL_law_1611 : decode cL_law 1611 = .ok (.lcmp, 1) := by decide +kernel
theorem dL_law_1612 : decode cL_law 1612 = .ok (.ifCond .eq 5, 3) := by decide +kernel
theorem dL_law_1615 : decode cL_law 1615 = .ok (.iconst 0, 1) := by decide +kernel
theorem dL_law_1616 : decode cL_law 1616 = .ok (.ireturn, 1) := by decide +kernel
theorem dL_law_1617 : decode cL_law 1617 = .ok (.goto 499, 3) := by decide +kernel
theorem dL_law_1620 : decode cL_law 1620 = .ok (.aload_n 1, 1) := by decide +kernel
theorem dL_law_1621 : decode cL_law 1621 = .ok (.invokevirtual 224, 3) := by decide +kernel
theorem dL_law_1624 : decode cL_law 1624 = .ok (.aload_n 2, 1) := by decide +kernel
theorem dL_law_1625 : decode cL_law 1625 = .ok (.invokevirtual 227, 3) := by decide +kernel
theorem dL_law_1628 : decode cL_law 1628 = .ok (.if_icmp .eq 488, 3) := by decide +kernel
theorem dL_law_1631 : decode cL_law 1631 = .ok (.iconst 0, 1) := by decide +kernel
theorem dL_law_1632 : decode cL_law 1632 = .ok (.ireturn, 1) := by decide +kernel
theorem dL_law_1633 : decode cL_law 1633 = .ok (.aload_n 1, 1) := by decide +kernel
theorem dL_law_1634 : decode cL_law 1634 = .ok (.aload_n 0, 1) := by decide +kernel
theorem dL_law_1635 : decode cL_law 1635 = .ok (.iload 5, 2) := by decide +kernel
theorem dL_law_1637 : decode cL_law 1637 = .ok (.iconst 1, 1) := by decide +kernel
theorem dL_law_1638 : decode cL_law 1638 = .ok (.iadd, 1) := by decide +kernel
theorem dL_law_1639 : decode cL_law 1639 = .ok (.iaload, 1) := by decide +kernel
theorem dL_law_1640 : decode cL_law 1640 = .ok (.aload_n 3, 1) := by decide +kernel
theorem dL_law_1641 : decode cL_law 1641 = .ok (.invokestatic 228, 3) := by decide +kernel
theorem dL_law_1644 : decode cL_law 1644 = .ok (.istore 6, 2) := by decide +kernel
theorem dL_law_1646 : decode cL_law 1646 = .ok (.aload_n 2, 1) := by decide +kernel
theorem dL_law_1647 : decode cL_law 1647 = .ok (.aload_n 0, 1) := by decide +kernel
theorem dL_law_1648 : decode cL_law 1648 = .ok (.iload 5, 2) := by decide +kernel
theorem dL_law_1650 : decode cL_law 1650 = .ok (.iconst 1, 1) := by decide +kernel
theorem dL_law_1651 : decode cL_law 1651 = .ok (.iadd, 1) := by decide +kernel
theorem dL_law_1652 : decode cL_law 1652 = .ok (.iaload, 1) := by decide +kernel
theorem dL_law_1653 : decode cL_law 1653 = .ok (.invokevirtual 230, 3) := by decide +kernel
theorem dL_law_1656 : decode cL_law 1656 = .ok (.istore 7, 2) := by decide +kernel
theorem dL_law_1658 : decode cL_law 1658 = .ok (.aload_n 2, 1) := by decide +kernel
theorem dL_law_1659 : decode cL_law 1659 = .ok (.invokevirtual 132, 3) := by decide +kernel
theorem dL_law_1662 : decode cL_law 1662 = .ok (.iload 6, 2) := by decide +kernel
theorem dL_law_1664 : decode cL_law 1664 = .ok (.if_icmp .eq 5, 3) := by decide +kernel
theorem dL_law_1667 : decode cL_law 1667 = .ok (.iconst 0, 1) := by decide +kernel
theorem dL_law_1668 : decode cL_law 1668 = .ok (.ireturn, 1) := by decide +kernel
theorem dL_law_1669 : decode cL_law 1669 = .ok (.iload 6, 2) := by decide +kernel
theorem dL_law_1671 : decode cL_law 1671 = .ok (.ifCond .ne 15, 3) := by decide +kernel
theorem dL_law_1674 : decode cL_law 1674 = .ok (.aload_n 3, 1) := by decide +kernel
theorem dL_law_1675 : decode cL_law 1675 = .ok (.iconst 0, 1) := by decide +kernel
theorem dL_law_1676 : decode cL_law 1676 = .ok (.laload, 1) := by decide +kernel
theorem dL_law_1677 : decode cL_law 1677 = .ok (.iload 7, 2) := by decide +kernel
theorem dL_law_1679 : decode cL_law 1679 = .ok (.i2l, 1) := by decide +kernel
theorem dL_law_1680 : decode cL_law 1680 = .ok (.lcmp, 1) := by decide +kernel
theorem dL_law_1681 : decode cL_law 1681 = .ok (.ifCond .eq 5, 3) := by decide +kernel
theorem dL_law_1684 : decode cL_law 1684 = .ok (.iconst 0, 1) := by decide +kernel
theorem dL_law_1685 : decode cL_law 1685 = .ok (.ireturn, 1) := by decide +kernel
theorem dL_law_1686 : decode cL_law 1686 = .ok (.goto 430, 3) := by decide +kernel
theorem dL_law_1689 : decode cL_law 1689 = .ok (.aload_n 1, 1) := by decide +kernel
theorem dL_law_1690 : decode cL_law 1690 = .ok (.aload_n 0, 1) := by decide +kernel
theorem dL_law_1691 : decode cL_law 1691 = .ok (.iload 5, 2) := by decide +kernel
theorem dL_law_1693 : decode cL_law 1693 = .ok (.iconst 1, 1) := by decide +kernel
theorem dL_law_1694 : decode cL_law 1694 = .ok (.iadd, 1) := by decide +kernel
theorem dL_law_1695 : decode cL_law 1695 = .ok (.iaload, 1) := by decide +kernel
theorem dL_law_1696 : decode cL_law 1696 = .ok (.aload_n 3, 1) := by decide +kernel
theorem dL_law_1697 : decode cL_law 1697 = .ok (.invokestatic 231, 3) := by decide +kernel
theorem dL_law_1700 : decode cL_law 1700 = .ok (.istore 6, 2) := by decide +kernel
theorem dL_law_1702 : decode cL_law 1702 = .ok (.aload_n 2, 1) := by decide +kernel
theorem dL_law_1703 : decode cL_law 1703 = .ok (.aload_n 0, 1) := by decide +kernel
theorem dL_law_1704 : decode cL_law 1704 = .ok (.iload 5, 2) := by decide +kernel
theorem dL_law_1706 : decode cL_law 1706 = .ok (.iconst 1, 1) := by decide +kernel
theorem dL_law_1707 : decode cL_law 1707 = .ok (.iadd, 1) := by decide +kernel
theorem dL_law_1708 : decode cL_law 1708 = .ok (.iaload, 1) := by decide +kernel
theorem dL_law_1709 : decode cL_law 1709 = .ok (.invokevirtual 233, 3) := by decide +kernel
theorem dL_law_1712 : decode cL_law 1712 = .ok (.istore 7, 2) := by decide +kernel
theorem dL_law_1714 : decode cL_law 1714 = .ok (.aload_n 2, 1) := by decide +kernel
theorem dL_law_1715 : decode cL_law 1715 = .ok (.invokevirtual 132, 3) := by decide +kernel
theorem dL_law_1718 : decode cL_law 1718 = .ok (.iload 6, 2) := by decide +kernel
theorem dL_law_1720 : decode cL_law 1720 = .ok (.if_icmp .eq 5, 3) := by decide +kernel
theorem dL_law_1723 : decode cL_law 1723 = .ok (.iconst 0, 1) := by decide +kernel
theorem dL_law_1724 : decode cL_law 1724 = .ok (.ireturn, 1) := by decide +kernel
theorem dL_law_1725 : decode cL_law 1725 = .ok (.iload 6, 2) := by decide +kernel
theorem dL_law_1727 : decode cL_law 1727 = .ok (.ifCond .ne 15, 3) := by decide +kernel
theorem dL_law_1730 : decode cL_law 1730 = .ok (.aload_n 3, 1) := by decide +kernel
theorem dL_law_1731 : decode cL_law 1731 = .ok (.iconst 0, 1) := by decide +kernel
theorem dL_law_1732 : decode cL_law 1732 = .ok (.laload, 1) := by decide +kernel
theorem dL_law_1733 : decode cL_law 1733 = .ok (.iload 7, 2) := by decide +kernel
theorem dL_law_1735 : decode cL_law 1735 = .ok (.i2l, 1) := by decide +kernel
theorem dL_law_1736 : decode cL_law 1736 = .ok (.lcmp, 1) := by decide +kernel
theorem dL_law_1737 : decode cL_law 1737 = .ok (.ifCond .eq 5, 3) := by decide +kernel
theorem dL_law_1740 : decode cL_law 1740 = .ok (.iconst 0, 1) := by decide +kernel
theorem dL_law_1741 : decode cL_law 1741 = .ok (.ireturn, 1) := by decide +kernel
theorem dL_law_1742 : decode cL_law 1742 = .ok (.goto 374, 3) := by decide +kernel
theorem dL_law_1745 : decode cL_law 1745 = .ok (.aload_n 1, 1) := by decide +kernel
theorem dL_law_1746 : decode cL_law 1746 = .ok (.aload_n 3, 1) := by decide +kernel
theorem dL_law_1747 : decode cL_law 1747 = .ok (.invokestatic 234, 3) := by decide +kernel
theorem dL_law_1750 : decode cL_law 1750 = .ok (.istore 6, 2) := by decide +kernel
theorem dL_law_1752 : decode cL_law 1752 = .ok (.aload_n 2, 1) := by decide +kernel
theorem dL_law_1753 : decode cL_law 1753 = .ok (.invokevirtual 237, 3) := by decide +kernel
theorem dL_law_1756 : decode cL_law 1756 = .ok (.istore 7, 2) := by decide +kernel
theorem dL_law_1758 : decode cL_law 1758 = .ok (.aload_n 2, 1) := by decide +kernel
theorem dL_law_1759 : decode cL_law 1759 = .ok (.invokevirtual 132, 3) := by decide +kernel
theorem dL_law_1762 : decode cL_law 1762 = .ok (.iload 6, 2) := by decide +kernel
theorem dL_law_1764 : decode cL_law 1764 = .ok (.if_icmp .eq 5, 3) := by decide +kernel
theorem dL_law_1767 : decode cL_law 1767 = .ok (.iconst 0, 1) := by decide +kernel
theorem dL_law_1768 : decode cL_law 1768 = .ok (.ireturn, 1) := by decide +kernel
theorem dL_law_1769 : decode cL_law 1769 = .ok (.iload 6, 2) := by decide +kernel
theorem dL_law_1771 : decode cL_law 1771 = .ok (.ifCond .ne 15, 3) := by decide +kernel
theorem dL_law_1774 : decode cL_law 1774 = .ok (.aload_n 3, 1) := by decide +kernel
theorem dL_law_1775 : decode cL_law 1775 = .ok (.iconst 0, 1) := by decide +kernel
theorem dL_law_1776 : decode cL_law 1776 = .ok (.laload, 1) := by decide +kernel
theorem dL_law_1777 : decode cL_law 1777 = .ok (.iload 7, 2) := by decide +kernel
theorem dL_law_1779 : decode cL_law 1779 = .ok (.i2l, 1) := by decide +kernel
theorem dL_law_1780 : decode cL_law 1780 = .ok (.lcmp, 1) := by decide +kernel
theorem dL_law_1781 : decode cL_law 1781 = .ok (.ifCond .eq 5, 3) := by decide +kernel
theorem dL_law_1784 : decode cL_law 1784 = .ok (.iconst 0, 1) := by decide +kernel
theorem dL_law_1785 : decode cL_law 1785 = .ok (.ireturn, 1) := by decide +kernel
theorem dL_law_1786 : decode cL_law 1786 = .ok (.goto 330, 3) := by decide +kernel
theorem dL_law_1789 : decode cL_law 1789 = .ok (.aload_n 1, 1) := by decide +kernel
theorem dL_law_1790 : decode cL_law 1790 = .ok (.aload_n 0, 1) := by decide +kernel
theorem dL_law_1791 : decode cL_law 1791 = .ok (.iload 5, 2) := by decide +kernel
theorem dL_law_1793 : decode cL_law 1793 = .ok (.iconst 1, 1) := by decide +kernel
theorem dL_law_1794 : decode cL_law 1794 = .ok (.iadd, 1) := by decide +kernel
theorem dL_law_1795 : decode cL_law 1795 = .ok (.iaload, 1) := by decide +kernel
theorem dL_law_1796 : decode cL_law 1796 = .ok (.aload_n 3, 1) := by decide +kernel
theorem dL_law_1797 : decode cL_law 1797 = .ok (.invokestatic 238, 3) := by decide +kernel
theorem dL_law_1800 : decode cL_law 1800 = .ok (.istore 6, 2) := by decide +kernel
theorem dL_law_1802 : decode cL_law 1802 = .ok (.aload_n 2, 1) := by decide +kernel
theorem dL_law_1803 : decode cL_law 1803 = .ok (.aload_n 0, 1) := by decide +kernel
theorem dL_law_1804 : decode cL_law 1804 = .ok (.iload 5, 2) := by decide +kernel
theorem dL_law_1806 : decode cL_law 1806 = .ok (.iconst 1, 1) := by decide +kernel
theorem dL_law_1807 : decode cL_law 1807 = .ok (.iadd, 1) := by decide +kernel
theorem dL_law_1808 : decode cL_law 1808 = .ok (.iaload, 1) := by decide +kernel
theorem dL_law_1809 : decode cL_law 1809 = .ok (.invokevirtual 240, 3) := by decide +kernel
theorem dL_law_1812 : decode cL_law 1812 = .ok (.istore 7, 2) := by decide +kernel
theorem dL_law_1814 : decode cL_law 1814 = .ok (.aload_n 2, 1) := by decide +kernel
theorem dL_law_1815 : decode cL_law 1815 = .ok (.invokevirtual 132, 3) := by decide +kernel
theorem dL_law_1818 : decode cL_law 1818 = .ok (.iload 6, 2) := by decide +kernel
theorem dL_law_1820 : decode cL_law 1820 = .ok (.if_icmp .eq 5, 3) := by decide +kernel
theorem dL_law_1823 : decode cL_law 1823 = .ok (.iconst 0, 1) := by decide +kernel
theorem dL_law_1824 : decode cL_law 1824 = .ok (.ireturn, 1) := by decide +kernel
theorem dL_law_1825 : decode cL_law 1825 = .ok (.iload 6, 2) := by decide +kernel
theorem dL_law_1827 : decode cL_law 1827 = .ok (.ifCond .ne 15, 3) := by decide +kernel
theorem dL_law_1830 : decode cL_law 1830 = .ok (.aload_n 3, 1) := by decide +kernel
theorem dL_law_1831 : decode cL_law 1831 = .ok (.iconst 0, 1) := by decide +kernel
theorem dL_law_1832 : decode cL_law 1832 = .ok (.laload, 1) := by decide +kernel
theorem dL_law_1833 : decode cL_law 1833 = .ok (.iload 7, 2) := by decide +kernel
theorem dL_law_1835 : decode cL_law 1835 = .ok (.i2l, 1) := by decide +kernel
theorem dL_law_1836 : decode cL_law 1836 = .ok (.lcmp, 1) := by decide +kernel
theorem dL_law_1837 : decode cL_law 1837 = .ok (.ifCond .eq 5, 3) := by decide +kernel
theorem dL_law_1840 : decode cL_law 1840 = .ok (.iconst 0, 1) := by decide +kernel
theorem dL_law_1841 : decode cL_law 1841 = .ok (.ireturn, 1) := by decide +kernel
theorem dL_law_1842 : decode cL_law 1842 = .ok (.goto 274, 3) := by decide +kernel
theorem dL_law_1845 : decode cL_law 1845 = .ok (.aload_n 1, 1) := by decide +kernel
theorem dL_law_1846 : decode cL_law 1846 = .ok (.aload_n 0, 1) := by decide +kernel
theorem dL_law_1847 : decode cL_law 1847 = .ok (.iload 5, 2) := by decide +kernel
theorem dL_law_1849 : decode cL_law 1849 = .ok (.iconst 1, 1) := by decide +kernel
theorem dL_law_1850 : decode cL_law 1850 = .ok (.iadd, 1) := by decide +kernel
theorem dL_law_1851 : decode cL_law 1851 = .ok (.iaload, 1) := by decide +kernel
theorem dL_law_1852 : decode cL_law 1852 = .ok (.aload_n 0, 1) := by decide +kernel
theorem dL_law_1853 : decode cL_law 1853 = .ok (.iload 5, 2) := by decide +kernel
theorem dL_law_1855 : decode cL_law 1855 = .ok (.iconst 2, 1) := by decide +kernel
theorem dL_law_1856 : decode cL_law 1856 = .ok (.iadd, 1) := by decide +kernel
theorem dL_law_1857 : decode cL_law 1857 = .ok (.iaload, 1) := by decide +kernel
theorem dL_law_1858 : decode cL_law 1858 = .ok (.aload_n 3, 1) := by decide +kernel
theorem dL_law_1859 : decode cL_law 1859 = .ok (.invokestatic 241, 3) := by decide +kernel
theorem dL_law_1862 : decode cL_law 1862 = .ok (.istore 6, 2) := by decide +kernel
theorem dL_law_1864 : decode cL_law 1864 = .ok (.aload_n 2, 1) := by decide +kernel
theorem dL_law_1865 : decode cL_law 1865 = .ok (.aload_n 0, 1) := by decide +kernel
theorem dL_law_1866 : decode cL_law 1866 = .ok (.iload 5, 2) := by decide +kernel
theorem dL_law_1868 : decode cL_law 1868 = .ok (.iconst 1, 1) := by decide +kernel
theorem dL_law_1869 : decode cL_law 1869 = .ok (.iadd, 1) := by decide +kernel
theorem dL_law_1870 : decode cL_law 1870 = .ok (.iaload, 1) := by decide +kernel
theorem dL_law_1871 : decode cL_law 1871 = .ok (.aload_n 0, 1) := by decide +kernel
theorem dL_law_1872 : decode cL_law 1872 = .ok (.iload 5, 2) := by decide +kernel
theorem dL_law_1874 : decode cL_law 1874 = .ok (.iconst 2, 1) := by decide +kernel
theorem dL_law_1875 : decode cL_law 1875 = .ok (.iadd, 1) := by decide +kernel
theorem dL_law_1876 : decode cL_law 1876 = .ok (.iaload, 1) := by decide +kernel
theorem dL_law_1877 : decode cL_law 1877 = .ok (.invokevirtual 243, 3) := by decide +kernel
theorem dL_law_1880 : decode cL_law 1880 = .ok (.istore 7, 2) := by decide +kernel
theorem dL_law_1882 : decode cL_law 1882 = .ok (.aload_n 2, 1) := by decide +kernel
theorem dL_law_1883 : decode cL_law 1883 = .ok (.invokevirtual 132, 3) := by decide +kernel
theorem dL_law_1886 : decode cL_law 1886 = .ok (.iload 6, 2) := by decide +kernel
theorem dL_law_1888 : decode cL_law 1888 = .ok (.if_icmp .eq 5, 3) := by decide +kernel
theorem dL_law_1891 : decode cL_law 1891 = .ok (.iconst 0, 1) := by decide +kernel
theorem dL_law_1892 : decode cL_law 1892 = .ok (.ireturn, 1) := by decide +kernel
theorem dL_law_1893 : decode cL_law 1893 = .ok (.iload 6, 2) := by decide +kernel
theorem dL_law_1895 : decode cL_law 1895 = .ok (.ifCond .ne 15, 3) := by decide +kernel
theorem dL_law_1898 : decode cL_law 1898 = .ok (.aload_n 3, 1) := by decide +kernel
theorem dL_law_1899 : decode cL_law 1899 = .ok (.iconst 0, 1) := by decide +kernel
theorem dL_law_1900 : decode cL_law 1900 = .ok (.laload, 1) := by decide +kernel
theorem dL_law_1901 : decode cL_law 1901 = .ok (.iload 7, 2) := by decide +kernel
theorem dL_law_1903 : decode cL_law 1903 = .ok (.i2l, 1) := by decide +kernel
theorem dL_law_1904 : decode cL_law 1904 = .ok (.lcmp, 1) := by decide +kernel
theorem dL_law_1905 : decode cL_law 1905 = .ok (.ifCond .eq 5, 3) := by decide +kernel
theorem dL_law_1908 : decode cL_law 1908 = .ok (.iconst 0, 1) := by decide +kernel
theorem dL_law_1909 : decode cL_law 1909 = .ok (.ireturn, 1) := by decide +kernel
theorem dL_law_1910 : decode cL_law 1910 = .ok (.goto 206, 3) := by decide +kernel
theorem dL_law_1913 : decode cL_law 1913 = .ok (.aload_n 1, 1) := by decide +kernel
theorem dL_law_1914 : decode cL_law 1914 = .ok (.aload_n 0, 1) := by decide +kernel
theorem dL_law_1915 : decode cL_law 1915 = .ok (.iload 5, 2) := by decide +kernel
theorem dL_law_1917 : decode cL_law 1917 = .ok (.iconst 1, 1) := by decide +kernel
theorem dL_law_1918 : decode cL_law 1918 = .ok (.iadd, 1) := by decide +kernel
theorem dL_law_1919 : decode cL_law 1919 = .ok (.iaload, 1) := by decide +kernel
theorem dL_law_1920 : decode cL_law 1920 = .ok (.i2c, 1) := by decide +kernel
theorem dL_law_1921 : decode cL_law 1921 = .ok (.aload_n 3, 1) := by decide +kernel
theorem dL_law_1922 : decode cL_law 1922 = .ok (.invokestatic 244, 3) := by decide +kernel
theorem dL_law_1925 : decode cL_law 1925 = .ok (.istore 6, 2) := by decide +kernel
theorem dL_law_1927 : decode cL_law 1927 = .ok (.aload_n 2, 1) := by decide +kernel
theorem dL_law_1928 : decode cL_law 1928 = .ok (.aload_n 0, 1) := by decide +kernel
theorem dL_law_1929 : decode cL_law 1929 = .ok (.iload 5, 2) := by decide +kernel
theorem dL_law_1931 : decode cL_law 1931 = .ok (.iconst 1, 1) := by decide +kernel
theorem dL_law_1932 : decode cL_law 1932 = .ok (.iadd, 1) := by decide +kernel
theorem dL_law_1933 : decode cL_law 1933 = .ok (.iaload, 1) := by decide +kernel
theorem dL_law_1934 : decode cL_law 1934 = .ok (.i2c, 1) := by decide +kernel
theorem dL_law_1935 : decode cL_law 1935 = .ok (.invokevirtual 247, 3) := by decide +kernel
theorem dL_law_1938 : decode cL_law 1938 = .ok (.istore 7, 2) := by decide +kernel
theorem dL_law_1940 : decode cL_law 1940 = .ok (.aload_n 2, 1) := by decide +kernel
theorem dL_law_1941 : decode cL_law 1941 = .ok (.invokevirtual 132, 3) := by decide +kernel
theorem dL_law_1944 : decode cL_law 1944 = .ok (.iload 6, 2) := by decide +kernel
theorem dL_law_1946 : decode cL_law 1946 = .ok (.if_icmp .eq 5, 3) := by decide +kernel
theorem dL_law_1949 : decode cL_law 1949 = .ok (.iconst 0, 1) := by decide +kernel
theorem dL_law_1950 : decode cL_law 1950 = .ok (.ireturn, 1) := by decide +kernel
theorem dL_law_1951 : decode cL_law 1951 = .ok (.iload 6, 2) := by decide +kernel
theorem dL_law_1953 : decode cL_law 1953 = .ok (.ifCond .ne 15, 3) := by decide +kernel
theorem dL_law_1956 : decode cL_law 1956 = .ok (.aload_n 3, 1) := by decide +kernel
theorem dL_law_1957 : decode cL_law 1957 = .ok (.iconst 0, 1) := by decide +kernel
theorem dL_law_1958 : decode cL_law 1958 = .ok (.laload, 1) := by decide +kernel
theorem dL_law_1959 : decode cL_law 1959 = .ok (.iload 7, 2) := by decide +kernel
theorem dL_law_1961 : decode cL_law 1961 = .ok (.i2l, 1) := by decide +kernel
theorem dL_law_1962 : decode cL_law 1962 = .ok (.lcmp, 1) := by decide +kernel
theorem dL_law_1963 : decode cL_law 1963 = .ok (.ifCond .eq 5, 3) := by decide +kernel
theorem dL_law_1966 : decode cL_law 1966 = .ok (.iconst 0, 1) := by decide +kernel
theorem dL_law_1967 : decode cL_law 1967 = .ok (.ireturn, 1) := by decide +kernel
theorem dL_law_1968 : decode cL_law 1968 = .ok (.goto 148, 3) := by decide +kernel
theorem dL_law_1971 : decode cL_law 1971 = .ok (.aload_n 1, 1) := by decide +kernel
theorem dL_law_1972 : decode cL_law 1972 = .ok (.invokevirtual 248, 3) := by decide +kernel
theorem dL_law_1975 : decode cL_law 1975 = .ok (.aload_n 2, 1) := by decide +kernel
theorem dL_law_1976 : decode cL_law 1976 = .ok (.invokevirtual 252, 3) := by decide +kernel
theorem dL_law_1979 : decode cL_law 1979 = .ok (.lcmp, 1) := by decide +kernel
theorem dL_law_1980 : decode cL_law 1980 = .ok (.ifCond .eq 136, 3) := by decide +kernel
theorem dL_law_1983 : decode cL_law 1983 = .ok (.iconst 0, 1) := by decide +kernel
theorem dL_law_1984 : decode cL_law 1984 = .ok (.ireturn, 1) := by decide +kernel
theorem dL_law_1985 : decode cL_law 1985 = .ok (.aload_n 1, 1) := by decide +kernel
theorem dL_law_1986 : decode cL_law 1986 = .ok (.aload 4, 2) := by decide +kernel
theorem dL_law_1988 : decode cL_law 1988 = .ok (.invokestatic 253, 3) := by decide +kernel
theorem dL_law_1991 : decode cL_law 1991 = .ok (.istore 6, 2) := by decide +kernel
theorem dL_law_1993 : decode cL_law 1993 = .ok (.aload_n 2, 1) := by decide +kernel
theorem dL_law_1994 : decode cL_law 1994 = .ok (.invokevirtual 256, 3) := by decide +kernel
theorem dL_law_1997 : decode cL_law 1997 = .ok (.fstore 7, 2) := by decide +kernel
theorem dL_law_1999 : decode cL_law 1999 = .ok (.aload_n 2, 1) := by decide +kernel
theorem dL_law_2000 : decode cL_law 2000 = .ok (.invokevirtual 132, 3) := by decide +kernel
theorem dL_law_2003 : decode cL_law 2003 = .ok (.iload 6, 2) := by decide +kernel
theorem dL_law_2005 : decode cL_law 2005 = .ok (.if_icmp .eq 5, 3) := by decide +kernel
theorem dL_law_2008 : decode cL_law 2008 = .ok (.iconst 0, 1) := by decide +kernel
theorem dL_law_2009 : decode cL_law 2009 = .ok (.ireturn, 1) := by decide +kernel
theorem dL_law_2010 : decode cL_law 2010 = .ok (.iload 6, 2) := by decide +kernel
theorem dL_law_2012 : decode cL_law 2012 = .ok (.ifCond .ne 36, 3) := by decide +kernel
theorem dL_law_2015 : decode cL_law 2015 = .ok (.aload 4, 2) := by decide +kernel
theorem dL_law_2017 : decode cL_law 2017 = .ok (.iconst 0, 1) := by decide +kernel
theorem dL_law_2018 : decode cL_law 2018 = .ok (.daload, 1) := by decide +kernel
theorem dL_law_2019 : decode cL_law 2019 = .ok (.fload 7, 2) := by decide +kernel
theorem dL_law_2021 : decode cL_law 2021 = .ok (.f2d, 1) := by decide +kernel
theorem dL_law_2022 : decode cL_law 2022 = .ok (.dcmp .l, 1) := by decide +kernel
theorem dL_law_2023 : decode cL_law 2023 = .ok (.ifCond .eq 25, 3) := by decide +kernel
theorem dL_law_2026 : decode cL_law 2026 = .ok (.aload 4, 2) := by decide +kernel
theorem dL_law_2028 : decode cL_law 2028 = .ok (.iconst 0, 1) := by decide +kernel
theorem dL_law_2029 : decode cL_law 2029 = .ok (.daload, 1) := by decide +kernel
theorem dL_law_2030 : decode cL_law 2030 = .ok (.aload 4, 2) := by decide +kernel
theorem dL_law_2032 : decode cL_law 2032 = .ok (.iconst 0, 1) := by decide +kernel
theorem dL_law_2033 : decode cL_law 2033 = .ok (.daload, 1) := by decide +kernel
theorem dL_law_2034 : decode cL_law 2034 = .ok (.dcmp .l, 1) := by decide +kernel
theorem dL_law_2035 : decode cL_law 2035 = .ok (.ifCond .eq 11, 3) := by decide +kernel
theorem dL_law_2038 : decode cL_law 2038 = .ok (.fload 7, 2) := by decide +kernel
theorem dL_law_2040 : decode cL_law 2040 = .ok (.fload 7, 2) := by decide +kernel
theorem dL_law_2042 : decode cL_law 2042 = .ok (.fcmp .l, 1) := by decide +kernel
theorem dL_law_2043 : decode cL_law 2043 = .ok (.ifCond .ne 5, 3) := by decide +kernel
theorem dL_law_2046 : decode cL_law 2046 = .ok (.iconst 0, 1) := by decide +kernel
theorem dL_law_2047 : decode cL_law 2047 = .ok (.ireturn, 1) := by decide +kernel
theorem dL_law_2048 : decode cL_law 2048 = .ok (.goto 68, 3) := by decide +kernel
theorem dL_law_2051 : decode cL_law 2051 = .ok (.aload_n 1, 1) := by decide +kernel
theorem dL_law_2052 : decode cL_law 2052 = .ok (.aload 4, 2) := by decide +kernel
theorem dL_law_2054 : decode cL_law 2054 = .ok (.invokestatic 257, 3) := by decide +kernel
theorem dL_law_2057 : decode cL_law 2057 = .ok (.istore 6, 2) := by decide +kernel
theorem dL_law_2059 : decode cL_law 2059 = .ok (.aload_n 2, 1) := by decide +kernel
theorem dL_law_2060 : decode cL_law 2060 = .ok (.invokevirtual 259, 3) := by decide +kernel
theorem dL_law_2063 : decode cL_law 2063 = .ok (.dstore 7, 2) := by decide +kernel
theorem dL_law_2065 : decode cL_law 2065 = .ok (.aload_n 2, 1) := by decide +kernel
theorem dL_law_2066 : decode cL_law 2066 = .ok (.invokevirtual 132, 3) := by decide +kernel
theorem dL_law_2069 : decode cL_law 2069 = .ok (.iload 6, 2) := by decide +kernel
theorem dL_law_2071 : decode cL_law 2071 = .ok (.if_icmp .eq 5, 3) := by decide +kernel
theorem dL_law_2074 : decode cL_law 2074 = .ok (.iconst 0, 1) := by decide +kernel
theorem dL_law_2075 : decode cL_law 2075 = .ok (.ireturn, 1) := by decide +kernel
theorem dL_law_2076 : decode cL_law 2076 = .ok (.iload 6, 2) := by decide +kernel
theorem dL_law_2078 : decode cL_law 2078 = .ok (.ifCond .ne 35, 3) := by decide +kernel
theorem dL_law_2081 : decode cL_law 2081 = .ok (.aload 4, 2) := by decide +kernel
theorem dL_law_2083 : decode cL_law 2083 = .ok (.iconst 0, 1) := by decide +kernel
theorem dL_law_2084 : decode cL_law 2084 = .ok (.daload, 1) := by decide +kernel
theorem dL_law_2085 : decode cL_law 2085 = .ok (.dload 7, 2) := by decide +kernel
theorem dL_law_2087 : decode cL_law 2087 = .ok (.dcmp .l, 1) := by decide +kernel
theorem dL_law_2088 : decode cL_law 2088 = .ok (.ifCond .eq 25, 3) := by decide +kernel
theorem dL_law_2091 : decode cL_law 2091 = .ok (.aload 4, 2) := by decide +kernel
theorem dL_law_2093 : decode cL_law 2093 = .ok (.iconst 0, 1) := by decide +kernel
theorem dL_law_2094 : decode cL_law 2094 = .ok (.daload, 1) := by decide +kernel
theorem dL_law_2095 : decode cL_law 2095 = .ok (.aload 4, 2) := by decide +kernel
theorem dL_law_2097 : decode cL_law 2097 = .ok (.iconst 0, 1) := by decide +kernel
theorem dL_law_2098 : decode cL_law 2098 = .ok (.daload, 1) := by decide +kernel
theorem dL_law_2099 : decode cL_law 2099 = .ok (.dcmp .l, 1) := by decide +kernel
theorem dL_law_2100 : decode cL_law 2100 = .ok (.ifCond .eq 11, 3) := by decide +kernel
theorem dL_law_2103 : decode cL_law 2103 = .ok (.dload 7, 2) := by decide +kernel
theorem dL_law_2105 : decode cL_law 2105 = .ok (.dload 7, 2) := by decide +kernel
theorem dL_law_2107 : decode cL_law 2107 = .ok (.dcmp .l, 1) := by decide +kernel
theorem dL_law_2108 : decode cL_law 2108 = .ok (.ifCond .ne 5, 3) := by decide +kernel
theorem dL_law_2111 : decode cL_law 2111 = .ok (.iconst 0, 1) := by decide +kernel
theorem dL_law_2112 : decode cL_law 2112 = .ok (.ireturn, 1) := by decide +kernel
theorem dL_law_2113 : decode cL_law 2113 = .ok (.goto 3, 3) := by decide +kernel
theorem dL_law_2116 : decode cL_law 2116 = .ok (.iinc 5 5, 3) := by decide +kernel
theorem dL_law_2119 : decode cL_law 2119 = .ok (.goto (-2091), 3) := by decide +kernel
theorem dL_law_2122 : decode cL_law 2122 = .ok (.iconst 1, 1) := by decide +kernel
theorem dL_law_2123 : decode cL_law 2123 = .ok (.ireturn, 1) := by decide +kernel
end
section
/-! THE CLAIM OUT OF ONE WALK OF THE LAW'S BODY. Your part is whole_start (and what it stands on); all else here is the same for every law, but numbers. -/
def R_law : String := "LineclockLaw"
def lw_P (b : Addr) (xs : List Int32) (args : Array Value) (s : State) : Prop := args = #[.ref b] ∧ s.IntsAt b xs ∧ xs.length ≤ 2560 ∧ (Jvm.Cond.and given_1 narrow_1).before args s = true
/-- what a walk over the start with the record d0 says of its end, said of the start itself -/
theorem lw_closed {s t : State} {o : Outcome} {d0 : Drawn} {L : List Loc} {k n : Nat} (hd0 : s.drawn.sameBut d0 lw_cs) (hv : ∃ v, o = .returned v) (hW : (s.setDrawn d0).WarmedH t.vm) (hs : (s.setDrawn d0).sameButNew ({ t with vm := s.vm } : State) L k n) : State.butDraws s t lw_cs (fun t1 => Framed s o t1 L k n) := by
  have h2 : t.drawn = d0 := congrArg State.drawn hs.1
  refine ⟨⟨hv, hW, State.sameButNew.setDrawn hs s.drawn⟩, ?_, by decide⟩
  rw [h2]
  exact hd0
def lw_Q (_ : Array Value) (s : State) (o : Outcome) (t : State) : Prop := o = .returned (some (.int 1)) ∧ State.butDraws s t lw_cs (fun t1 => Framed s o t1 [] 603072 7219306)
def lw_Z (below : List Frame) (a : Array Value) (s : State) : State → Prop := fun t => ∃ o, t.status = .running ∧ Ended t below o ∧ lw_Q a s o t
/-- the law's own end, with 1 on the stack, nothing written that was there before, its room as the claim has it; d0: the record of draws at this point (at the entry s.drawn: begin with 'refine W.base ?_' and 'have hd0 := Drawn.sameBut.refl s.drawn lw_cs') -/
theorem lw_ret {p : Program} {l : Launch} {e : Env} {s : State} {m : MethodId} {below : List Frame} {meth : Method} {c : Code} {b : Nat} {d0 : Drawn} (hd0 : s.drawn.sameBut d0 lw_cs) (hx : p.tables.exec = Jvm.exec) (hb : c.code = code) (hr : meth.sig.returnType = ret) (hlocks : meth.locks = false) {pc : Nat} {H : Heap} {ls : Array Slot} (hdg : decode code pc = .ok (.ireturn, 1)) : W p l e room_1 (s.setDrawn d0) m #[Value.ref b] below meth c H [] 603072 7219306 (lw_Z below #[Value.ref b] s) (F0 m pc ls [.int 1]) := by
  intro T hT X
  obtain ⟨fs, hret, hrun, hended, hW, hframe⟩ := X.leave (v := some (.int 1)) (hlocks := hlocks) (fun h => by rw [hr] at h; cases h)
  have hmeth' : T.vm.method? m = some meth := X.method'
  refine ⟨T.setFrames fs, ?_, .returned (some (.int 1)), hrun, hended, rfl, lw_closed hd0 ⟨_, rfl⟩ hW hframe⟩
  jvm_step X.here [X.here.top, hx, hb, hdg, hmeth', hr, ret, narrow_b1]
  (try refine ⟨rfl, ?_⟩); (try refine ⟨rfl, ?_⟩)
  first | (intro acts; rw [hret _ acts rfl rfl rfl]) | rw [hret _ _ rfl rfl rfl]
  exact Steps.refl _
/-- what holds at the law's entry: the machine, the code, the tables' words (any of lw_tbl by 'hts w (by decide +kernel)'), the script of L ints xs at the cell b, what the Statement gives of the start (any of its parts by flat_of_before) -/
def lw_At (p : Program) (s : State) (m : MethodId) (meth : Method) (c : Code) (b L : Nat) (xs : Nat → Int32) : Prop :=
  p.tables.exec = Jvm.exec ∧ c.code = code ∧ meth.sig.returnType = ret ∧ c.maxLocals = 9 ∧ s.vm.findClass R_law = some m.cls ∧ (∀ w ∈ lw_tbl, w.before #[Value.ref b] s = true) ∧ va_X b L xs s s.heap ∧ b < s.heap.size ∧ meth.locks = false ∧ (Jvm.Cond.and given_1 narrow_1).before #[Value.ref b] s = true
-- ===== YOUR PART BEGINS =====
/-- YOUR PART: from the entry, for every script of at most 2560 ints, the law comes to its end with true ('hflags': the launch's flags, for a law that throws: no stack traces) -/
theorem whole_start {p : Program} {e : Env} {s : State} {m : MethodId} {below : List Frame} {meth : Method} {c : Code} (l : Launch) (hflags : l.flags = flags0) {b L : Nat} {xs : Nat → Int32} (hL : L ≤ 2560) (C0 : lw_At p s m meth c b L xs) : W p l e room_1 s m #[Value.ref b] below meth c s.heap [] 0 0 (lw_Z below #[Value.ref b] s) (entryFrame m ([Value.ref b] : List Value).toArray 9) := by
  sorry
-- ===== YOUR PART ENDS =====
set_option maxHeartbeats 4000000 in
theorem lw_walk (l : Launch) (hflags : l.flags = flags0) (b : Addr) (xs : List Int32) : MetFree l x (headSpec (Jvm.Cond.code x code maxLocals ret :: tables_1) room_1) (lw_P b xs) (fun _ _ _ _ _ => True) lw_Q := by
  refine MetFree.of_bodyS (code := code) (maxLocals := maxLocals) (ret := ret) (by decide) ?_ ?_
  · intro args s m h hn
    obtain ⟨meth, c, h1, h2, h3, h4, h5, h6, -, -⟩ := Cond.code_spec hn (atoms_spec (ws := Jvm.Cond.code x code maxLocals ret :: tables_1) h _ List.mem_cons_self)
    exact ⟨meth, c, h1, h2, h3, h4, h5, h6⟩
  · intro p e s m args below meth c s₁ B hml0 hP _
    obtain ⟨rfl, hx, hbd, hgv⟩ := hP
    obtain ⟨scr, harrAt, hlist, hof, hsmall⟩ := hx
    obtain ⟨hcb, hkn, -, -⟩ := State.arrayAt?_spec harrAt
    have hown : s.vm.findClass R_law = some m.cls := findClass_of_methodNamed B.named
    have hts0 : ∀ c ∈ (Jvm.Cond.code x code maxLocals ret :: tables_1), c.before #[Value.ref b] s = true := atoms_spec (ws := Jvm.Cond.code x code maxLocals ret :: tables_1) B.pre
    have hts : ∀ w ∈ lw_tbl, w.before #[Value.ref b] s = true := k2_hts_sels lw_privs (fun w hw => hts0 w (List.mem_cons_of_mem _ hw)) lw_privs_ok
    have hml : c.maxLocals = 9 := B.maxLocals_eq (hts0 _ List.mem_cons_self)
    have X₀ : Stand p l e room_1 s m #[Value.ref b] below meth c s₁ [] 0 0 := Stand.of_body B
    have hh0 : s₁.heap = s.heap := by rw [B.state]; rfl
    have hsz : scr.slots.size = xs.length := by rw [← Array.length_toList, hlist, List.length_map]
    have hval : ∀ j : Nat, j < xs.length → scr.slots[j]? = some (.int (xs.getD j 0)) := fun j hj => by
      rw [← Array.getElem?_toList, hlist]
      simp [hj]
    have hbl : b < s.heap.size := (Array.getElem?_eq_some_iff.mp hcb).1
    have hX : va_X b xs.length (fun j => xs.getD j 0) s s.heap := ⟨scr, hcb, hof, hkn, hsz, hval⟩
    have K : W p l e room_1 s m #[Value.ref b] below meth c s₁.heap [] 0 0 (lw_Z below #[Value.ref b] s) (entryFrame m ([Value.ref b] : List Value).toArray 9) := by
      rw [hh0]
      exact whole_start l hflags hbd ⟨B.exec, B.bytes, B.returns, hml, hown, hts, hX, hbl, B.notSynchronized, hgv⟩
    obtain ⟨t, a1, o, b1, b2, b3⟩ := K s₁ rfl X₀
    exact ⟨t, o, a1, b1, b2, b3⟩
theorem lw_pre_spec {args : Array Value} {s : State} (h : (Jvm.Cond.and given_1 narrow_1).before args s = true) (hr : rest_1_c.before args s = true) : ∃ (b : Addr) (xs : List Int32), lw_P b xs args s := by
  have hs := flat_of_before _ h
  have hq := flat_of_before _ hr
  have hc : (Cond.count 1).before args s = true := hs _ (by decide +kernel)
  have harr : (Cond.arrayOf (.arg 0) .int).before args s = true := hs _ (by decide +kernel)
  have hle : (Cond.le (.length (.arg 0)) (.int 2560)).before args s = true := hs _ (by decide +kernel)
  have hlen : (Cond.isInt (.length (.arg 0))).before args s = true := hq _ (by decide +kernel)
  have hall : (Cond.all (.arg 0) (.isInt (.elem (.arg 0) (.index 0)))).before args s = true := hq _ (by decide +kernel)
  obtain ⟨b, xs, hb, hx⟩ := State.ints_of_pre rfl harr hlen hall
  have hsm : xs.length < 2 ^ 31 := hx.choose_spec.2.2.2
  have hev : (Term.length (.arg 0)).eval args s none [] s = some (.int xs.length.toInt32) := hx.length_eval hb
  have hv := Cond.le_ints hev (show (Term.int 2560).eval args s none [] s = some (.int 2560) from rfl)
  have hd : xs.length.toInt32 ≤ 2560 := by
    simpa [Cond.before, Cond.holds, hv] using hle
  have hN : xs.length ≤ 2560 := (Int32.ofNat_le_ofNat hsm (by decide)).mp (show Int32.ofNat xs.length ≤ Int32.ofNat 2560 from hd)
  exact ⟨b, xs, Cond.one_arg hc (show args[0]? = some (.ref b) from hb), hx, hN, h⟩
theorem lw_comes (l : Launch) (hflags : l.flags = flags0) : Comes l x (Jvm.Cond.code x code maxLocals ret :: tables_1) room_1 (fun tb e args s => Calls_1 tb e args s ∧ rest_1 tb e args s ∧ Pre_1 tb e args s)
    (fun _ _ args s o t => lw_Q args s o t) := by
  intro p e ha hc hk s m args below hf hfit hheap happ hpre
  obtain ⟨b, xs, hP⟩ := lw_pre_spec hpre.2.2 hpre.2.1
  obtain ⟨k, o, h1, h2, h3, hQ⟩ := lw_walk l hflags b xs p e ha hc hk s m args below hf ((Spec.applies_iff_loose hf).mp happ).1 hP trivial
  exact ⟨k, o, h1, h2, h3, hQ⟩
theorem lw_frame {s t : State} {o : Outcome} {args : Array Value} (h : State.butDraws s t lw_cs (fun t1 => Framed s o t1 [] 603072 7219306)) :
    State.butDraws s t [Jvm.Choice.named "NaN.bits"] (fun t1 => Framed s o t1 (fieldLocs frame_1_writes args s ++ arrayLocs frame_1_arrays args s ++ staticLocs frame_1_statics s) 603072 7219306) := h
theorem lw_limb (L : Cond) (hL : ∀ (args : Array Value) (s t : State), L.after args s (.returned (some (.int 1))) t = true) :
    ArmFor flags0 classFile x code maxLocals ret World_1 tables_1 room_1 Calls_1 rest_1 Pre_1
      (fun tb e a s o t => postC L tb e a s o t ∧ State.butDraws s t [Jvm.Choice.named "NaN.bits"] (fun t1 => Framed s o t1 (fieldLocs frame_1_writes a s ++ arrayLocs frame_1_arrays a s ++ staticLocs frame_1_statics s) 603072 7219306)) := by
  intro l hflags _ _ p e ha hc hk s m args below hf hfit hheap happ hpre
  obtain ⟨k, o, h1, h2, h3, rfl, hF⟩ := lw_comes l hflags p e ha hc hk s m args below hf hfit hheap happ hpre
  exact ⟨k, _, h1, h2, h3, hL args s _, lw_frame hF⟩
theorem i_vc : Claimed_1_1 ∧ Claimed_1_2 := ⟨lw_limb limb_1_1 (fun args s t => by simp [limb_1_1, Cond.after, Cond.holds, Cond.value]), lw_limb limb_1_2 (fun args s t => Cond.after_iff.mpr (by
  first | (rw [show limb_1_2 = Cond.eq .result (.int 1) from rfl, Cond.eq_ints (x := 1) (y := 1) rfl rfl]; simp; done) | (simp [limb_1_2, Cond.value, Term.eval]; done)))⟩
end
