section
-- ===== PART A: goes FIRST, ahead of the names: the tables' words, and 'selects' of the private methods out of them =====
/-- a private method of a class that the tables say can be made, by its rows of tables_1 -/
def lw_okq (q : MethodName × Nat) : Prop := (q.1.cls ≠ "java/lang/invoke/MethodHandle" ∧ q.1.cls ≠ "java/lang/invoke/VarHandle") ∧ Cond.instantiable q.1.cls q.2 ∈ tables_1 ∧ Cond.privateMethod q.1 ∈ tables_1 ∧ Cond.instanceMethod q.1 ∈ tables_1
theorem lw_p0 : lw_okq (⟨"ArmTolls", "indexOfSyntaxError", "()I"⟩, 6) := ⟨⟨by decide +kernel, by decide +kernel⟩, List.mem_of_getElem? (i := 18) (by decide +kernel), List.mem_of_getElem? (i := 204) (by decide +kernel), List.mem_of_getElem? (i := 205) (by decide +kernel)⟩
theorem lw_p1 : lw_okq (⟨"ArmTolls", "codeAt", "(I)I"⟩, 6) := ⟨⟨by decide +kernel, by decide +kernel⟩, List.mem_of_getElem? (i := 18) (by decide +kernel), List.mem_of_getElem? (i := 212) (by decide +kernel), List.mem_of_getElem? (i := 213) (by decide +kernel)⟩
theorem lw_p2 : lw_okq (⟨"ArmTolls", "countOf", "(I)I"⟩, 6) := ⟨⟨by decide +kernel, by decide +kernel⟩, List.mem_of_getElem? (i := 18) (by decide +kernel), List.mem_of_getElem? (i := 270) (by decide +kernel), List.mem_of_getElem? (i := 271) (by decide +kernel)⟩
theorem lw_p3 : lw_okq (⟨"ArmTolls", "mixedWithForecasts", "(JLArmTolls$Gear;)J"⟩, 6) := ⟨⟨by decide +kernel, by decide +kernel⟩, List.mem_of_getElem? (i := 18) (by decide +kernel), List.mem_of_getElem? (i := 304) (by decide +kernel), List.mem_of_getElem? (i := 305) (by decide +kernel)⟩
theorem lw_p4 : lw_okq (⟨"ArmTolls", "turnAndSlip", "(LArmTolls$Gear;I)I"⟩, 6) := ⟨⟨by decide +kernel, by decide +kernel⟩, List.mem_of_getElem? (i := 18) (by decide +kernel), List.mem_of_getElem? (i := 320) (by decide +kernel), List.mem_of_getElem? (i := 321) (by decide +kernel)⟩
theorem lw_p5 : lw_okq (⟨"ArmTolls", "homingFact", "(LArmTolls$Gear;I)I"⟩, 6) := ⟨⟨by decide +kernel, by decide +kernel⟩, List.mem_of_getElem? (i := 18) (by decide +kernel), List.mem_of_getElem? (i := 336) (by decide +kernel), List.mem_of_getElem? (i := 337) (by decide +kernel)⟩
theorem lw_p6 : lw_okq (⟨"ArmTolls", "reachOf", "(LArmTolls$Gear;I)I"⟩, 6) := ⟨⟨by decide +kernel, by decide +kernel⟩, List.mem_of_getElem? (i := 18) (by decide +kernel), List.mem_of_getElem? (i := 363) (by decide +kernel), List.mem_of_getElem? (i := 364) (by decide +kernel)⟩
theorem lw_p7 : lw_okq (⟨"ArmTolls", "worstTooth", "(LArmTolls$Gear;I)I"⟩, 6) := ⟨⟨by decide +kernel, by decide +kernel⟩, List.mem_of_getElem? (i := 18) (by decide +kernel), List.mem_of_getElem? (i := 372) (by decide +kernel), List.mem_of_getElem? (i := 373) (by decide +kernel)⟩
theorem lw_p8 : lw_okq (⟨"ArmTolls", "lesserCost", "(LArmTolls$Gear;II)I"⟩, 6) := ⟨⟨by decide +kernel, by decide +kernel⟩, List.mem_of_getElem? (i := 18) (by decide +kernel), List.mem_of_getElem? (i := 376) (by decide +kernel), List.mem_of_getElem? (i := 377) (by decide +kernel)⟩
theorem lw_p9 : lw_okq (⟨"java/lang/Throwable", "fillInStackTrace", "(I)Ljava/lang/Throwable;"⟩, 6) := ⟨⟨by decide +kernel, by decide +kernel⟩, List.mem_of_getElem? (i := 435) (by decide +kernel), List.mem_of_getElem? (i := 433) (by decide +kernel), List.mem_of_getElem? (i := 434) (by decide +kernel)⟩
theorem lw_p10 : lw_okq (⟨"ArmTolls", "gearOf", "(I)LArmTolls$Gear;"⟩, 6) := ⟨⟨by decide +kernel, by decide +kernel⟩, List.mem_of_getElem? (i := 18) (by decide +kernel), List.mem_of_getElem? (i := 508) (by decide +kernel), List.mem_of_getElem? (i := 509) (by decide +kernel)⟩
theorem lw_p11 : lw_okq (⟨"ArmTolls", "canStep", "(LArmTolls$Gear;I)Z"⟩, 6) := ⟨⟨by decide +kernel, by decide +kernel⟩, List.mem_of_getElem? (i := 18) (by decide +kernel), List.mem_of_getElem? (i := 563) (by decide +kernel), List.mem_of_getElem? (i := 564) (by decide +kernel)⟩
theorem lw_p12 : lw_okq (⟨"ArmTolls", "makeSteps", "(LArmTolls$Gear;II)I"⟩, 6) := ⟨⟨by decide +kernel, by decide +kernel⟩, List.mem_of_getElem? (i := 18) (by decide +kernel), List.mem_of_getElem? (i := 568) (by decide +kernel), List.mem_of_getElem? (i := 569) (by decide +kernel)⟩
theorem lw_p13 : lw_okq (⟨"ArmTolls", "canGo", "(LArmTolls$Gear;I)Z"⟩, 6) := ⟨⟨by decide +kernel, by decide +kernel⟩, List.mem_of_getElem? (i := 18) (by decide +kernel), List.mem_of_getElem? (i := 583) (by decide +kernel), List.mem_of_getElem? (i := 584) (by decide +kernel)⟩
theorem lw_p14 : lw_okq (⟨"ArmTolls", "cheaperWay", "(LArmTolls$Gear;I)I"⟩, 6) := ⟨⟨by decide +kernel, by decide +kernel⟩, List.mem_of_getElem? (i := 18) (by decide +kernel), List.mem_of_getElem? (i := 587) (by decide +kernel), List.mem_of_getElem? (i := 588) (by decide +kernel)⟩
theorem lw_p15 : lw_okq (⟨"ArmTolls", "goTo", "(LArmTolls$Gear;I)I"⟩, 6) := ⟨⟨by decide +kernel, by decide +kernel⟩, List.mem_of_getElem? (i := 18) (by decide +kernel), List.mem_of_getElem? (i := 591) (by decide +kernel), List.mem_of_getElem? (i := 592) (by decide +kernel)⟩
def lw_privs_1 : List (MethodName × Nat) := [(⟨"ArmTolls", "indexOfSyntaxError", "()I"⟩, 6), (⟨"ArmTolls", "codeAt", "(I)I"⟩, 6), (⟨"ArmTolls", "countOf", "(I)I"⟩, 6), (⟨"ArmTolls", "mixedWithForecasts", "(JLArmTolls$Gear;)J"⟩, 6), (⟨"ArmTolls", "turnAndSlip", "(LArmTolls$Gear;I)I"⟩, 6), (⟨"ArmTolls", "homingFact", "(LArmTolls$Gear;I)I"⟩, 6), (⟨"ArmTolls", "reachOf", "(LArmTolls$Gear;I)I"⟩, 6), (⟨"ArmTolls", "worstTooth", "(LArmTolls$Gear;I)I"⟩, 6), (⟨"ArmTolls", "lesserCost", "(LArmTolls$Gear;II)I"⟩, 6), (⟨"java/lang/Throwable", "fillInStackTrace", "(I)Ljava/lang/Throwable;"⟩, 6), (⟨"ArmTolls", "gearOf", "(I)LArmTolls$Gear;"⟩, 6), (⟨"ArmTolls", "canStep", "(LArmTolls$Gear;I)Z"⟩, 6), (⟨"ArmTolls", "makeSteps", "(LArmTolls$Gear;II)I"⟩, 6), (⟨"ArmTolls", "canGo", "(LArmTolls$Gear;I)Z"⟩, 6), (⟨"ArmTolls", "cheaperWay", "(LArmTolls$Gear;I)I"⟩, 6), (⟨"ArmTolls", "goTo", "(LArmTolls$Gear;I)I"⟩, 6)]
theorem lw_r1 : ∀ q ∈ lw_privs_1, lw_okq q := List.forall_mem_cons.mpr ⟨lw_p0, List.forall_mem_cons.mpr ⟨lw_p1, List.forall_mem_cons.mpr ⟨lw_p2, List.forall_mem_cons.mpr ⟨lw_p3, List.forall_mem_cons.mpr ⟨lw_p4, List.forall_mem_cons.mpr ⟨lw_p5, List.forall_mem_cons.mpr ⟨lw_p6, List.forall_mem_cons.mpr ⟨lw_p7, List.forall_mem_cons.mpr ⟨lw_p8, List.forall_mem_cons.mpr ⟨lw_p9, List.forall_mem_cons.mpr ⟨lw_p10, List.forall_mem_cons.mpr ⟨lw_p11, List.forall_mem_cons.mpr ⟨lw_p12, List.forall_mem_cons.mpr ⟨lw_p13, List.forall_mem_cons.mpr ⟨lw_p14, List.forall_mem_cons.mpr ⟨lw_p15, fun _ h => absurd h List.not_mem_nil⟩⟩⟩⟩⟩⟩⟩⟩⟩⟩⟩⟩⟩⟩⟩⟩
theorem lw_p16 : lw_okq (⟨"ArmTolls", "makeHomed", "(LArmTolls$Gear;)Z"⟩, 6) := ⟨⟨by decide +kernel, by decide +kernel⟩, List.mem_of_getElem? (i := 18) (by decide +kernel), List.mem_of_getElem? (i := 602) (by decide +kernel), List.mem_of_getElem? (i := 603) (by decide +kernel)⟩
theorem lw_p17 : lw_okq (⟨"ArmTolls", "canGrease", "()Z"⟩, 6) := ⟨⟨by decide +kernel, by decide +kernel⟩, List.mem_of_getElem? (i := 18) (by decide +kernel), List.mem_of_getElem? (i := 613) (by decide +kernel), List.mem_of_getElem? (i := 614) (by decide +kernel)⟩
theorem lw_p18 : lw_okq (⟨"ArmTolls", "makeGreased", "(LArmTolls$Gear;)V"⟩, 6) := ⟨⟨by decide +kernel, by decide +kernel⟩, List.mem_of_getElem? (i := 18) (by decide +kernel), List.mem_of_getElem? (i := 618) (by decide +kernel), List.mem_of_getElem? (i := 619) (by decide +kernel)⟩
theorem lw_p19 : lw_okq (⟨"ArmTolls", "isProgram", "()Z"⟩, 6) := ⟨⟨by decide +kernel, by decide +kernel⟩, List.mem_of_getElem? (i := 18) (by decide +kernel), List.mem_of_getElem? (i := 655) (by decide +kernel), List.mem_of_getElem? (i := 656) (by decide +kernel)⟩
theorem lw_p20 : lw_okq (⟨"ArmTolls", "carryOutBuffer", "()I"⟩, 6) := ⟨⟨by decide +kernel, by decide +kernel⟩, List.mem_of_getElem? (i := 18) (by decide +kernel), List.mem_of_getElem? (i := 664) (by decide +kernel), List.mem_of_getElem? (i := 665) (by decide +kernel)⟩
theorem lw_p21 : lw_okq (⟨"ArmTolls", "carryOutCommand", "()Z"⟩, 6) := ⟨⟨by decide +kernel, by decide +kernel⟩, List.mem_of_getElem? (i := 18) (by decide +kernel), List.mem_of_getElem? (i := 668) (by decide +kernel), List.mem_of_getElem? (i := 669) (by decide +kernel)⟩
theorem lw_p22 : lw_okq (⟨"ArmTollsModel", "save", "()V"⟩, 13) := ⟨⟨by decide +kernel, by decide +kernel⟩, List.mem_of_getElem? (i := 765) (by decide +kernel), List.mem_of_getElem? (i := 823) (by decide +kernel), List.mem_of_getElem? (i := 824) (by decide +kernel)⟩
theorem lw_p23 : lw_okq (⟨"ArmTollsModel", "of", "(II)I"⟩, 13) := ⟨⟨by decide +kernel, by decide +kernel⟩, List.mem_of_getElem? (i := 765) (by decide +kernel), List.mem_of_getElem? (i := 834) (by decide +kernel), List.mem_of_getElem? (i := 835) (by decide +kernel)⟩
theorem lw_p24 : lw_okq (⟨"ArmTollsModel", "put", "(III)V"⟩, 13) := ⟨⟨by decide +kernel, by decide +kernel⟩, List.mem_of_getElem? (i := 765) (by decide +kernel), List.mem_of_getElem? (i := 838) (by decide +kernel), List.mem_of_getElem? (i := 839) (by decide +kernel)⟩
theorem lw_p25 : lw_okq (⟨"ArmTollsModel", "canStep", "(IZ)Z"⟩, 13) := ⟨⟨by decide +kernel, by decide +kernel⟩, List.mem_of_getElem? (i := 765) (by decide +kernel), List.mem_of_getElem? (i := 856) (by decide +kernel), List.mem_of_getElem? (i := 857) (by decide +kernel)⟩
theorem lw_p26 : lw_okq (⟨"ArmTollsModel", "tollNow", "(IZ)I"⟩, 13) := ⟨⟨by decide +kernel, by decide +kernel⟩, List.mem_of_getElem? (i := 765) (by decide +kernel), List.mem_of_getElem? (i := 860) (by decide +kernel), List.mem_of_getElem? (i := 861) (by decide +kernel)⟩
theorem lw_p27 : lw_okq (⟨"ArmTollsModel", "nextTooth", "(IZ)I"⟩, 13) := ⟨⟨by decide +kernel, by decide +kernel⟩, List.mem_of_getElem? (i := 765) (by decide +kernel), List.mem_of_getElem? (i := 864) (by decide +kernel), List.mem_of_getElem? (i := 865) (by decide +kernel)⟩
theorem lw_p28 : lw_okq (⟨"ArmTollsModel", "tollBy", "(III)I"⟩, 13) := ⟨⟨by decide +kernel, by decide +kernel⟩, List.mem_of_getElem? (i := 765) (by decide +kernel), List.mem_of_getElem? (i := 871) (by decide +kernel), List.mem_of_getElem? (i := 872) (by decide +kernel)⟩
theorem lw_p29 : lw_okq (⟨"ArmTollsModel", "makeSteps", "(IZI)I"⟩, 13) := ⟨⟨by decide +kernel, by decide +kernel⟩, List.mem_of_getElem? (i := 765) (by decide +kernel), List.mem_of_getElem? (i := 875) (by decide +kernel), List.mem_of_getElem? (i := 876) (by decide +kernel)⟩
theorem lw_p30 : lw_okq (⟨"ArmTollsModel", "steps", "(IZ)Z"⟩, 13) := ⟨⟨by decide +kernel, by decide +kernel⟩, List.mem_of_getElem? (i := 765) (by decide +kernel), List.mem_of_getElem? (i := 879) (by decide +kernel), List.mem_of_getElem? (i := 880) (by decide +kernel)⟩
theorem lw_p31 : lw_okq (⟨"ArmTollsModel", "slipNow", "(IZ)I"⟩, 13) := ⟨⟨by decide +kernel, by decide +kernel⟩, List.mem_of_getElem? (i := 765) (by decide +kernel), List.mem_of_getElem? (i := 883) (by decide +kernel), List.mem_of_getElem? (i := 884) (by decide +kernel)⟩
def lw_privs_2 : List (MethodName × Nat) := [(⟨"ArmTolls", "makeHomed", "(LArmTolls$Gear;)Z"⟩, 6), (⟨"ArmTolls", "canGrease", "()Z"⟩, 6), (⟨"ArmTolls", "makeGreased", "(LArmTolls$Gear;)V"⟩, 6), (⟨"ArmTolls", "isProgram", "()Z"⟩, 6), (⟨"ArmTolls", "carryOutBuffer", "()I"⟩, 6), (⟨"ArmTolls", "carryOutCommand", "()Z"⟩, 6), (⟨"ArmTollsModel", "save", "()V"⟩, 13), (⟨"ArmTollsModel", "of", "(II)I"⟩, 13), (⟨"ArmTollsModel", "put", "(III)V"⟩, 13), (⟨"ArmTollsModel", "canStep", "(IZ)Z"⟩, 13), (⟨"ArmTollsModel", "tollNow", "(IZ)I"⟩, 13), (⟨"ArmTollsModel", "nextTooth", "(IZ)I"⟩, 13), (⟨"ArmTollsModel", "tollBy", "(III)I"⟩, 13), (⟨"ArmTollsModel", "makeSteps", "(IZI)I"⟩, 13), (⟨"ArmTollsModel", "steps", "(IZ)Z"⟩, 13), (⟨"ArmTollsModel", "slipNow", "(IZ)I"⟩, 13)]
theorem lw_r2 : ∀ q ∈ lw_privs_2, lw_okq q := List.forall_mem_cons.mpr ⟨lw_p16, List.forall_mem_cons.mpr ⟨lw_p17, List.forall_mem_cons.mpr ⟨lw_p18, List.forall_mem_cons.mpr ⟨lw_p19, List.forall_mem_cons.mpr ⟨lw_p20, List.forall_mem_cons.mpr ⟨lw_p21, List.forall_mem_cons.mpr ⟨lw_p22, List.forall_mem_cons.mpr ⟨lw_p23, List.forall_mem_cons.mpr ⟨lw_p24, List.forall_mem_cons.mpr ⟨lw_p25, List.forall_mem_cons.mpr ⟨lw_p26, List.forall_mem_cons.mpr ⟨lw_p27, List.forall_mem_cons.mpr ⟨lw_p28, List.forall_mem_cons.mpr ⟨lw_p29, List.forall_mem_cons.mpr ⟨lw_p30, List.forall_mem_cons.mpr ⟨lw_p31, fun _ h => absurd h List.not_mem_nil⟩⟩⟩⟩⟩⟩⟩⟩⟩⟩⟩⟩⟩⟩⟩⟩
theorem lw_p32 : lw_okq (⟨"ArmTollsModel", "add", "(III)V"⟩, 13) := ⟨⟨by decide +kernel, by decide +kernel⟩, List.mem_of_getElem? (i := 765) (by decide +kernel), List.mem_of_getElem? (i := 887) (by decide +kernel), List.mem_of_getElem? (i := 888) (by decide +kernel)⟩
theorem lw_p33 : lw_okq (⟨"ArmTollsModel", "canGo", "(II)Z"⟩, 13) := ⟨⟨by decide +kernel, by decide +kernel⟩, List.mem_of_getElem? (i := 765) (by decide +kernel), List.mem_of_getElem? (i := 901) (by decide +kernel), List.mem_of_getElem? (i := 902) (by decide +kernel)⟩
theorem lw_p34 : lw_okq (⟨"ArmTollsModel", "goesUp", "(II)Z"⟩, 13) := ⟨⟨by decide +kernel, by decide +kernel⟩, List.mem_of_getElem? (i := 765) (by decide +kernel), List.mem_of_getElem? (i := 905) (by decide +kernel), List.mem_of_getElem? (i := 906) (by decide +kernel)⟩
theorem lw_p35 : lw_okq (⟨"ArmTollsModel", "costNow", "(IIZ)I"⟩, 13) := ⟨⟨by decide +kernel, by decide +kernel⟩, List.mem_of_getElem? (i := 765) (by decide +kernel), List.mem_of_getElem? (i := 909) (by decide +kernel), List.mem_of_getElem? (i := 910) (by decide +kernel)⟩
theorem lw_p36 : lw_okq (⟨"ArmTollsModel", "goes", "(II)I"⟩, 13) := ⟨⟨by decide +kernel, by decide +kernel⟩, List.mem_of_getElem? (i := 765) (by decide +kernel), List.mem_of_getElem? (i := 913) (by decide +kernel), List.mem_of_getElem? (i := 914) (by decide +kernel)⟩
theorem lw_p37 : lw_okq (⟨"ArmTollsModel", "homes", "(I)I"⟩, 13) := ⟨⟨by decide +kernel, by decide +kernel⟩, List.mem_of_getElem? (i := 765) (by decide +kernel), List.mem_of_getElem? (i := 921) (by decide +kernel), List.mem_of_getElem? (i := 922) (by decide +kernel)⟩
theorem lw_p38 : lw_okq (⟨"ArmTollsModel", "canGrease", "()Z"⟩, 13) := ⟨⟨by decide +kernel, by decide +kernel⟩, List.mem_of_getElem? (i := 765) (by decide +kernel), List.mem_of_getElem? (i := 929) (by decide +kernel), List.mem_of_getElem? (i := 930) (by decide +kernel)⟩
theorem lw_p39 : lw_okq (⟨"ArmTollsModel", "greases", "(I)V"⟩, 13) := ⟨⟨by decide +kernel, by decide +kernel⟩, List.mem_of_getElem? (i := 765) (by decide +kernel), List.mem_of_getElem? (i := 933) (by decide +kernel), List.mem_of_getElem? (i := 934) (by decide +kernel)⟩
theorem lw_p40 : lw_okq (⟨"ArmTollsModel", "pay", "(I)V"⟩, 13) := ⟨⟨by decide +kernel, by decide +kernel⟩, List.mem_of_getElem? (i := 765) (by decide +kernel), List.mem_of_getElem? (i := 937) (by decide +kernel), List.mem_of_getElem? (i := 938) (by decide +kernel)⟩
theorem lw_p41 : lw_okq (⟨"ArmTollsModel", "rightUpTo", "()I"⟩, 13) := ⟨⟨by decide +kernel, by decide +kernel⟩, List.mem_of_getElem? (i := 765) (by decide +kernel), List.mem_of_getElem? (i := 957) (by decide +kernel), List.mem_of_getElem? (i := 958) (by decide +kernel)⟩
theorem lw_p42 : lw_okq (⟨"ArmTollsModel", "takes", "(I)Z"⟩, 13) := ⟨⟨by decide +kernel, by decide +kernel⟩, List.mem_of_getElem? (i := 765) (by decide +kernel), List.mem_of_getElem? (i := 961) (by decide +kernel), List.mem_of_getElem? (i := 962) (by decide +kernel)⟩
theorem lw_p43 : lw_okq (⟨"ArmTollsModel", "takesSign", "(I)Z"⟩, 13) := ⟨⟨by decide +kernel, by decide +kernel⟩, List.mem_of_getElem? (i := 765) (by decide +kernel), List.mem_of_getElem? (i := 965) (by decide +kernel), List.mem_of_getElem? (i := 966) (by decide +kernel)⟩
theorem lw_p44 : lw_okq (⟨"ArmTollsModel", "isEnded", "()Z"⟩, 13) := ⟨⟨by decide +kernel, by decide +kernel⟩, List.mem_of_getElem? (i := 765) (by decide +kernel), List.mem_of_getElem? (i := 969) (by decide +kernel), List.mem_of_getElem? (i := 970) (by decide +kernel)⟩
theorem lw_p45 : lw_okq (⟨"ArmTollsModel", "endCommand", "()V"⟩, 13) := ⟨⟨by decide +kernel, by decide +kernel⟩, List.mem_of_getElem? (i := 765) (by decide +kernel), List.mem_of_getElem? (i := 973) (by decide +kernel), List.mem_of_getElem? (i := 974) (by decide +kernel)⟩
theorem lw_p46 : lw_okq (⟨"ArmTollsModel", "takesDigit", "(I)Z"⟩, 13) := ⟨⟨by decide +kernel, by decide +kernel⟩, List.mem_of_getElem? (i := 765) (by decide +kernel), List.mem_of_getElem? (i := 977) (by decide +kernel), List.mem_of_getElem? (i := 978) (by decide +kernel)⟩
theorem lw_p47 : lw_okq (⟨"ArmTollsModel", "carries", "(I)Z"⟩, 13) := ⟨⟨by decide +kernel, by decide +kernel⟩, List.mem_of_getElem? (i := 765) (by decide +kernel), List.mem_of_getElem? (i := 985) (by decide +kernel), List.mem_of_getElem? (i := 986) (by decide +kernel)⟩
def lw_privs_3 : List (MethodName × Nat) := [(⟨"ArmTollsModel", "add", "(III)V"⟩, 13), (⟨"ArmTollsModel", "canGo", "(II)Z"⟩, 13), (⟨"ArmTollsModel", "goesUp", "(II)Z"⟩, 13), (⟨"ArmTollsModel", "costNow", "(IIZ)I"⟩, 13), (⟨"ArmTollsModel", "goes", "(II)I"⟩, 13), (⟨"ArmTollsModel", "homes", "(I)I"⟩, 13), (⟨"ArmTollsModel", "canGrease", "()Z"⟩, 13), (⟨"ArmTollsModel", "greases", "(I)V"⟩, 13), (⟨"ArmTollsModel", "pay", "(I)V"⟩, 13), (⟨"ArmTollsModel", "rightUpTo", "()I"⟩, 13), (⟨"ArmTollsModel", "takes", "(I)Z"⟩, 13), (⟨"ArmTollsModel", "takesSign", "(I)Z"⟩, 13), (⟨"ArmTollsModel", "isEnded", "()Z"⟩, 13), (⟨"ArmTollsModel", "endCommand", "()V"⟩, 13), (⟨"ArmTollsModel", "takesDigit", "(I)Z"⟩, 13), (⟨"ArmTollsModel", "carries", "(I)Z"⟩, 13)]
theorem lw_r3 : ∀ q ∈ lw_privs_3, lw_okq q := List.forall_mem_cons.mpr ⟨lw_p32, List.forall_mem_cons.mpr ⟨lw_p33, List.forall_mem_cons.mpr ⟨lw_p34, List.forall_mem_cons.mpr ⟨lw_p35, List.forall_mem_cons.mpr ⟨lw_p36, List.forall_mem_cons.mpr ⟨lw_p37, List.forall_mem_cons.mpr ⟨lw_p38, List.forall_mem_cons.mpr ⟨lw_p39, List.forall_mem_cons.mpr ⟨lw_p40, List.forall_mem_cons.mpr ⟨lw_p41, List.forall_mem_cons.mpr ⟨lw_p42, List.forall_mem_cons.mpr ⟨lw_p43, List.forall_mem_cons.mpr ⟨lw_p44, List.forall_mem_cons.mpr ⟨lw_p45, List.forall_mem_cons.mpr ⟨lw_p46, List.forall_mem_cons.mpr ⟨lw_p47, fun _ h => absurd h List.not_mem_nil⟩⟩⟩⟩⟩⟩⟩⟩⟩⟩⟩⟩⟩⟩⟩⟩
theorem lw_p48 : lw_okq (⟨"ArmTollsModel", "axisNow", "(II)I"⟩, 13) := ⟨⟨by decide +kernel, by decide +kernel⟩, List.mem_of_getElem? (i := 765) (by decide +kernel), List.mem_of_getElem? (i := 997) (by decide +kernel), List.mem_of_getElem? (i := 998) (by decide +kernel)⟩
theorem lw_p49 : lw_okq (⟨"ArmTollsModel", "counted", "(I)I"⟩, 13) := ⟨⟨by decide +kernel, by decide +kernel⟩, List.mem_of_getElem? (i := 765) (by decide +kernel), List.mem_of_getElem? (i := 1012) (by decide +kernel), List.mem_of_getElem? (i := 1013) (by decide +kernel)⟩
theorem lw_p50 : lw_okq (⟨"ArmTollsModel", "sumOf", "(I)I"⟩, 13) := ⟨⟨by decide +kernel, by decide +kernel⟩, List.mem_of_getElem? (i := 765) (by decide +kernel), List.mem_of_getElem? (i := 1016) (by decide +kernel), List.mem_of_getElem? (i := 1017) (by decide +kernel)⟩
theorem lw_p51 : lw_okq (⟨"ArmTollsModel", "wearOf", "(Z)I"⟩, 13) := ⟨⟨by decide +kernel, by decide +kernel⟩, List.mem_of_getElem? (i := 765) (by decide +kernel), List.mem_of_getElem? (i := 1020) (by decide +kernel), List.mem_of_getElem? (i := 1021) (by decide +kernel)⟩
theorem lw_p52 : lw_okq (⟨"ArmTollsModel", "rightAxes", "()I"⟩, 13) := ⟨⟨by decide +kernel, by decide +kernel⟩, List.mem_of_getElem? (i := 765) (by decide +kernel), List.mem_of_getElem? (i := 1024) (by decide +kernel), List.mem_of_getElem? (i := 1025) (by decide +kernel)⟩
theorem lw_p53 : lw_okq (⟨"ArmTollsModel", "homedThen", "(II)I"⟩, 13) := ⟨⟨by decide +kernel, by decide +kernel⟩, List.mem_of_getElem? (i := 765) (by decide +kernel), List.mem_of_getElem? (i := 1048) (by decide +kernel), List.mem_of_getElem? (i := 1049) (by decide +kernel)⟩
theorem lw_p54 : lw_okq (⟨"ArmTollsModel", "keep", "()V"⟩, 13) := ⟨⟨by decide +kernel, by decide +kernel⟩, List.mem_of_getElem? (i := 765) (by decide +kernel), List.mem_of_getElem? (i := 1052) (by decide +kernel), List.mem_of_getElem? (i := 1053) (by decide +kernel)⟩
theorem lw_p55 : lw_okq (⟨"ArmTollsModel", "layBack", "()V"⟩, 13) := ⟨⟨by decide +kernel, by decide +kernel⟩, List.mem_of_getElem? (i := 765) (by decide +kernel), List.mem_of_getElem? (i := 1056) (by decide +kernel), List.mem_of_getElem? (i := 1057) (by decide +kernel)⟩
theorem lw_p56 : lw_okq (⟨"ArmTollsModel", "reachNow", "(IZ)I"⟩, 13) := ⟨⟨by decide +kernel, by decide +kernel⟩, List.mem_of_getElem? (i := 765) (by decide +kernel), List.mem_of_getElem? (i := 1064) (by decide +kernel), List.mem_of_getElem? (i := 1065) (by decide +kernel)⟩
theorem lw_p57 : lw_okq (⟨"ArmTollsModel", "couldBeNow", "(I)I"⟩, 13) := ⟨⟨by decide +kernel, by decide +kernel⟩, List.mem_of_getElem? (i := 765) (by decide +kernel), List.mem_of_getElem? (i := 1072) (by decide +kernel), List.mem_of_getElem? (i := 1073) (by decide +kernel)⟩
theorem lw_p58 : lw_okq (⟨"ArmTollsModel", "worstNow", "(II)I"⟩, 13) := ⟨⟨by decide +kernel, by decide +kernel⟩, List.mem_of_getElem? (i := 765) (by decide +kernel), List.mem_of_getElem? (i := 1080) (by decide +kernel), List.mem_of_getElem? (i := 1081) (by decide +kernel)⟩
theorem lw_p59 : lw_okq (⟨"ArmTollsModel", "lesserCost", "(II)I"⟩, 13) := ⟨⟨by decide +kernel, by decide +kernel⟩, List.mem_of_getElem? (i := 765) (by decide +kernel), List.mem_of_getElem? (i := 1084) (by decide +kernel), List.mem_of_getElem? (i := 1085) (by decide +kernel)⟩
theorem lw_p60 : lw_okq (⟨"ArmTollsModel", "mean", "()D"⟩, 13) := ⟨⟨by decide +kernel, by decide +kernel⟩, List.mem_of_getElem? (i := 765) (by decide +kernel), List.mem_of_getElem? (i := 1092) (by decide +kernel), List.mem_of_getElem? (i := 1093) (by decide +kernel)⟩
theorem lw_p61 : lw_okq (⟨"ArmTollsModel", "mix", "(J)V"⟩, 13) := ⟨⟨by decide +kernel, by decide +kernel⟩, List.mem_of_getElem? (i := 765) (by decide +kernel), List.mem_of_getElem? (i := 1101) (by decide +kernel), List.mem_of_getElem? (i := 1102) (by decide +kernel)⟩
theorem lw_p62 : lw_okq (⟨"ArmTollsModel", "mixAxis", "(I)V"⟩, 13) := ⟨⟨by decide +kernel, by decide +kernel⟩, List.mem_of_getElem? (i := 765) (by decide +kernel), List.mem_of_getElem? (i := 1106) (by decide +kernel), List.mem_of_getElem? (i := 1107) (by decide +kernel)⟩
def lw_privs_4 : List (MethodName × Nat) := [(⟨"ArmTollsModel", "axisNow", "(II)I"⟩, 13), (⟨"ArmTollsModel", "counted", "(I)I"⟩, 13), (⟨"ArmTollsModel", "sumOf", "(I)I"⟩, 13), (⟨"ArmTollsModel", "wearOf", "(Z)I"⟩, 13), (⟨"ArmTollsModel", "rightAxes", "()I"⟩, 13), (⟨"ArmTollsModel", "homedThen", "(II)I"⟩, 13), (⟨"ArmTollsModel", "keep", "()V"⟩, 13), (⟨"ArmTollsModel", "layBack", "()V"⟩, 13), (⟨"ArmTollsModel", "reachNow", "(IZ)I"⟩, 13), (⟨"ArmTollsModel", "couldBeNow", "(I)I"⟩, 13), (⟨"ArmTollsModel", "worstNow", "(II)I"⟩, 13), (⟨"ArmTollsModel", "lesserCost", "(II)I"⟩, 13), (⟨"ArmTollsModel", "mean", "()D"⟩, 13), (⟨"ArmTollsModel", "mix", "(J)V"⟩, 13), (⟨"ArmTollsModel", "mixAxis", "(I)V"⟩, 13)]
theorem lw_r4 : ∀ q ∈ lw_privs_4, lw_okq q := List.forall_mem_cons.mpr ⟨lw_p48, List.forall_mem_cons.mpr ⟨lw_p49, List.forall_mem_cons.mpr ⟨lw_p50, List.forall_mem_cons.mpr ⟨lw_p51, List.forall_mem_cons.mpr ⟨lw_p52, List.forall_mem_cons.mpr ⟨lw_p53, List.forall_mem_cons.mpr ⟨lw_p54, List.forall_mem_cons.mpr ⟨lw_p55, List.forall_mem_cons.mpr ⟨lw_p56, List.forall_mem_cons.mpr ⟨lw_p57, List.forall_mem_cons.mpr ⟨lw_p58, List.forall_mem_cons.mpr ⟨lw_p59, List.forall_mem_cons.mpr ⟨lw_p60, List.forall_mem_cons.mpr ⟨lw_p61, List.forall_mem_cons.mpr ⟨lw_p62, fun _ h => absurd h List.not_mem_nil⟩⟩⟩⟩⟩⟩⟩⟩⟩⟩⟩⟩⟩⟩⟩
def lw_privs : List (MethodName × Nat) := lw_privs_1 ++ (lw_privs_2 ++ (lw_privs_3 ++ (lw_privs_4)))
def lw_tbl : List Cond := k2_sels lw_privs ++ tables_1
theorem lw_privs_ok : ∀ q ∈ lw_privs, lw_okq q := by
  show ∀ q ∈ lw_privs_1 ++ (lw_privs_2 ++ (lw_privs_3 ++ (lw_privs_4))), lw_okq q
  exact List.forall_mem_append.mpr ⟨lw_r1, List.forall_mem_append.mpr ⟨lw_r2, List.forall_mem_append.mpr ⟨lw_r3, lw_r4⟩⟩⟩
/-- the streams that the claim lets the run draw from -/
abbrev lw_cs : List Choice := [Jvm.Choice.named "NaN.bits"]
theorem lw_bits : nanBits ∈ lw_cs := by first | decide | exact List.mem_cons_self | simp [lw_cs, nanBits]
-- ===== end of PART A; then your names; then what follows =====
end
section
/-! ===== BEGIN words of one list among another's, by their places ===== -/
theorem goodIn_r {big : List Cond} (ws : List Cond) (ps : List Nat) (hp : ws = ps.filterMap (fun i => big[i]?)) (h : ws.all goodWord = true) : GoodIn big ws := by
  intro w hw
  have h1 := List.all_eq_true.mp h w hw
  rw [hp] at hw
  obtain ⟨i, -, hi⟩ := List.mem_filterMap.mp hw
  have hm : w ∈ big := by first | exact List.mem_of_getElem? hi | exact List.getElem?_mem hi
  exact ⟨hm, good_of_word h1⟩
theorem goodIn_app {big a b : List Cond} (ha : GoodIn big a) (hb : GoodIn big b) : GoodIn big (a ++ b) := fun w h => (List.mem_append.mp h).elim (ha w) (hb w)
theorem goodIn_ca {big a b : List Cond} {c : Cond} (ha : GoodIn big (c :: a)) (hb : GoodIn big b) : GoodIn big (c :: (a ++ b)) := fun w h => (List.mem_cons.mp h).elim (fun e => ha w (List.mem_cons.mpr (Or.inl e))) (fun h => (List.mem_append.mp h).elim (fun h => ha w (List.mem_cons.mpr (Or.inr h))) (hb w))
theorem goodIn_sub {big ws : List Cond} (hm : ∀ w ∈ ws, w ∈ big) (h : ws.all goodWord = true) : GoodIn big ws := fun w hw => ⟨hm w hw, good_of_word (List.all_eq_true.mp h w hw)⟩
/-! ===== END ===== -/

/-! ===== BEGIN exceptions that leave a method, and their catching by the caller (launches without stack traces) ===== -/
section VXA
/-! The laws vx_back, vx_callV, vx_callS, vx_callSW, vx_throw0, vx_throwS follow proofs of the library, with one case more: JvmDerived/Free/Laws.lean (Back.of_free), Shelf42/LK1.lean (callV, callS), Shelf/KitTraced.lean (throwNew0V, throwNewS). -/
/-- where a method has thrown q: the class by its name, the cell, what was written, the world -/
def vx_T (XC : String → State → State → Prop) (st : State) (q : Addr) (t : State) (mc ms : Nat) (free : Addr → Prop) : Prop :=
  ∃ (E : String) (ce : Cell) (L : List Loc), XC E st t ∧ t.heap[q]? = some ce ∧ ce.vm = .none ∧ st.vm.findClass E = some ce.cls ∧ st.WarmedH t.vm ∧ st.sameButNew ({ t with vm := st.vm } : State) L mc ms ∧ ∀ z ∈ L, free z.base
def vx_Q (Qc : Array Value → State → Outcome → State → Prop) (XC : String → State → State → Prop) (mc ms : Nat) (free : Addr → Prop) : Array Value → State → Outcome → State → Prop := fun a st o t =>
  (Qc a st o t ∧ ∃ L, FrameEnd st o t L mc ms ∧ ∀ q ∈ L, free q.base) ∨ ∃ q, o = .threw q ∧ vx_T XC st q t mc ms free
/-- a callee that returns or throws -/
def vx_Met (l : Launch) (y : MethodName) (ws : List Cond) (rm : Room) (Pc : Array Value → State → Prop) (Qc : Array Value → State → Outcome → State → Prop) (XC : String → State → State → Prop) (mc ms : Nat) (free : Addr → Prop) : Prop :=
  MetFree l y (headSpec ws rm) Pc (fun _ _ _ _ _ => True) (vx_Q Qc XC mc ms free)
def vx_Post (XC : String → State → State → Prop) (mc ms : Nat) (free : Addr → Prop) : Pt → Array Value → Addr → Pt → Prop := fun A a q B =>
  ∃ (g : JFrame) (mk : MethodId) (t : State) (L : List Loc) (E : String) (ce : Cell), B.U.heap = t.heap ∧ B.U.vm = t.vm ∧ XC E (A.U.calling g mk a) t ∧ t.heap[q]? = some ce ∧ ce.vm = .none ∧ A.U.vm.findClass E = some ce.cls ∧ B.locs = A.locs ++ L ∧ (∀ z ∈ L, free z.base) ∧ B.cells = A.cells + mc ∧ B.slots = A.slots + ms
def vx_Back (l : Launch) (R : Room) (p : Program) (e : Env) (below : List Frame) (s : State) (sargs : Array Value) (y : MethodName) (len W9 : Nat)
    (Pre : Pt → Array Value → Prop) (Post : Pt → Array Value → Option Value → Pt → Prop) (PostX : Pt → Array Value → Addr → Pt → Prop) : Prop :=
  ∀ (m : MethodId) (meth : Method) (c : Code) (A : Pt) (g : JFrame) (ig : Instr) (mk : MethodId) (a : Array Value),
    Stand p l e R s m sargs below meth c A.U A.locs A.cells A.slots → g.method = m → g.locals.size = c.maxLocals → decode c.code g.pc = .ok (ig, len) →
    2 * g.monitorRoom + (g.stack.map fun v => v.category).sum ≤ W9 → A.U.methodNamed? y = some mk → Pre A a →
    (∃ (v : Option Value) (B : Pt), Stand p l e R s m sargs below meth c B.U B.locs B.cells B.slots ∧ Post A a v B ∧
      Steps p.tables e below (doInvoke e (A.U.setTop g) [] mk a).1 (B.U.setTop { g with pc := g.pc + len, stack := v.toList ++ g.stack })) ∨
    (∃ (q : Addr) (B : Pt), Stand p l e R s m sargs below meth c B.U B.locs B.cells B.slots ∧ PostX A a q B ∧
      Steps p.tables e below (doInvoke e (A.U.setTop g) [] mk a).1 ((B.U.setTop g).pushFrame (.throwing q)))
section Payer
variable {l : Launch} {R : Room} {p : Program} {e : Env} {below : List Frame} {s : State} {sargs : Array Value} {y : MethodName} {len W9 : Nat}
theorem vx_back {ws : List Cond} {rm : Room} {Pc : Array Value → State → Prop} {Qc : Array Value → State → Outcome → State → Prop} {XC : String → State → State → Prop} {mc ms : Nat} {free : Addr → Prop} {bytes : ByteArray} {maxL : Nat} {ret : Option FieldType}
    (hM : vx_Met l y ws rm Pc Qc XC mc ms free) (hblind : FrameBlind Pc) (hrc : rm.cells = mc) (hrs : rm.slots = ms)
    (hframes : rm.frames + 1 ≤ R.frames) (hlocals : W9 + (maxL + 11) + rm.locals ≤ R.locals)
    (hws : ∀ w ∈ ws, ∀ a' U, s.WarmedH U.vm → w.before a' U = true) (hcode : Cond.code y bytes maxL ret ∈ ws) (hinit : ∀ a' U, s.WarmedH U.vm → (Cond.initialized y.cls).before a' U = true) :
    vx_Back l R p e below s sargs y len W9 (PreOf R mc ms Pc) (PostOf Qc mc ms free) (vx_Post XC mc ms free) := by
  intro m meth c A g ig mk a X hg hsize hdg hW hn hp
  have h1 : (headSpec ws rm).pre.before a A.U = true := atoms_intro fun w hw => hws w hw _ _ X.warmed
  have h2 : (Cond.code y bytes maxL ret).before a A.U = true := hws _ hcode _ _ X.warmed
  have h3 : (Cond.initialized y.cls).before a A.U = true := hinit _ _ X.warmed
  have h4 : A.cells + (headSpec ws rm).room.cells ≤ R.cells := by rw [show (headSpec ws rm).room.cells = mc from hrc]; exact hp.1
  have h5 : A.slots + (headSpec ws rm).room.slots ≤ R.slots := by rw [show (headSpec ws rm).room.slots = ms from hrs]; exact hp.2.1
  have hPc : Pc a (A.U.calling g mk a) := hblind _ _ _ _ hp.2.2
  obtain ⟨U, Ls, c0, s0⟩ := A
  dsimp only [Pt.U, Pt.locs, Pt.cells, Pt.slots] at h1 h2 h3 h4 h5 X hn hPc ⊢
  obtain ⟨methY, cY, hmY, hcY, -, hlY, -, -, -, -⟩ := Cond.code_spec hn h2
  obtain ⟨kY, hkY, -⟩ := className_of_methodNamed hn
  have hinitY : kY.init = .initialized := Cond.initialized_spec (findClass_of_methodNamed hn) hkY h3
  have h : At U g.method c below := by rw [hg]; exact X.here
  have hlocals9 : W9 + (maxL + 11) + (headSpec ws rm).room.locals ≤ R.locals := hlocals
  have happ : (headSpec ws rm).appliesLoose y e.platform (U.calling g mk a) = true :=
    Spec.appliesLoose_calling (g := g) h hdg hn hkY hinitY
      (X.room_calling (g := g) (R' := (headSpec ws rm).room) hsize hmY hcY hframes (by rw [hlY]; omega) h4 h5) h1
  obtain ⟨mid, hmid⟩ := h.above
  have hfr : (U.setTop g).frames = (.java g :: mid) ++ below := by rw [State.frames_setTop' g h.top, hmid]; rfl
  obtain ⟨o, s₂, hsteps, -, hend, hq⟩ := Steps.callFree hM p X.admits X.cas X.clock (acts := []) hfr happ hPc trivial
  have hq' : vx_Q Qc XC mc ms free a (U.calling g mk a) o s₂ := hq
  rw [State.frames_setTop' g h.top] at hend
  obtain ⟨g₀, hg0⟩ := Option.isSome_iff_exists.mp h.top
  obtain ⟨r, hr⟩ := State.topJava?_eq_some.mp hg0
  have hr' : (({ U with heap := s₂.heap, slotsUsed := s₂.slotsUsed } : State).setVm s₂.vm).frames = .java g₀ :: r := hr
  rcases hq' with ⟨hqc, L, hfe, hL⟩ | ⟨q, rfl, E, ce, L, hx, hce, hcv, hcl, hW₂, hsm, hL⟩
  · obtain ⟨⟨v, rfl⟩, hW₂, e2, q2, q3, q4, q5, q6⟩ := id hfe
    have e3 : s₂ = ({ (U.calling g mk a).setFrames s₂.frames with heap := s₂.heap, slotsUsed := s₂.slotsUsed } : State).setVm s₂.vm := by
      have : s₂ = ({ s₂ with vm := (U.calling g mk a).vm } : State).setVm s₂.vm := rfl
      rw [e2] at this
      exact this
    obtain ⟨c₂, i₂, len₂, hc₂, hd₂, hf₂⟩ := hend
    have hW' : U.WarmedH s₂.vm := hW₂
    have hcc : c₂ = c := by
      have h1 : s₂.code? g.method = U.code? g.method := by
        rw [State.code?_eq, State.code?_eq, hW'.alike.method?]
      exact Option.some.inj (hc₂.symm.trans (h1.trans h.code))
    subst hcc
    have hlen : len₂ = len := by rw [hdg] at hd₂; cases hd₂; rfl
    subst hlen
    have hs₂ : s₂ = (({ U with heap := s₂.heap, slotsUsed := s₂.slotsUsed } : State).setVm s₂.vm).setTop { g with pc := g.pc + len₂, stack := v.toList ++ g.stack } := by
      refine e3.trans ?_
      rw [hf₂, State.calling_eq h.top, State.setFrames_setFrames, State.setTop_of_frames _ hr', hr]
      rfl
    have hsame : U.sameButNew ({ U with heap := s₂.heap, slotsUsed := s₂.slotsUsed } : State) L mc ms := by
      refine ⟨?_, q2, q3, q4, q5, q6⟩
      obtain ⟨t, ht, -⟩ := State.frames_cons hr
      show ({ U with heap := s₂.heap, slotsUsed := s₂.slotsUsed } : State) = { U.setFrames U.frames with heap := s₂.heap, slotsUsed := s₂.slotsUsed }
      rw [State.setFrames_self ht]
    subst hg
    refine Or.inl ⟨v, ⟨(({ U with heap := s₂.heap, slotsUsed := s₂.slotsUsed } : State).setVm s₂.vm), Ls ++ L, c0 + mc, s0 + ms⟩,
      ⟨X.admits, X.cas, X.clock, X.frames, X.room, X.hears, X.method, X.code, (X.here.setHeapUsed s₂.heap s₂.slotsUsed).setVm hW'.alike, X.tail, State.WarmedH.trans X.warmed hW', X.limits, X.bytes, X.same.trans (hsame.setVm s.vm)⟩,
      ⟨g, mk, s₂, L, rfl, rfl, hqc, rfl, hL, rfl, rfl⟩, ?_⟩
    show Steps p.tables e below _ ((({ U with heap := s₂.heap, slotsUsed := s₂.slotsUsed } : State).setVm s₂.vm).setTop { g with pc := g.pc + len₂, stack := v.toList ++ g.stack })
    rw [← hs₂]
    exact hsteps
  · obtain ⟨e2, q2, q3, q4, q5, q6⟩ := id hsm
    have e3 : s₂ = ({ (U.calling g mk a).setFrames s₂.frames with heap := s₂.heap, slotsUsed := s₂.slotsUsed } : State).setVm s₂.vm := by
      have : s₂ = ({ s₂ with vm := (U.calling g mk a).vm } : State).setVm s₂.vm := rfl
      rw [e2] at this
      exact this
    have hf₂ : s₂.frames = .throwing q :: .java g :: U.frames.tail := hend
    have hW' : U.WarmedH s₂.vm := hW₂
    have hs₂ : s₂ = ((({ U with heap := s₂.heap, slotsUsed := s₂.slotsUsed } : State).setVm s₂.vm).setTop g).pushFrame (.throwing q) := by
      refine e3.trans ?_
      rw [hf₂, State.calling_eq h.top, State.setFrames_setFrames, State.pushFrame, State.frames_setTop _ hr', State.setTop_of_frames _ hr', State.setFrames_setFrames, hr]
      rfl
    have hsame : U.sameButNew ({ U with heap := s₂.heap, slotsUsed := s₂.slotsUsed } : State) L mc ms := by
      refine ⟨?_, q2, q3, q4, q5, q6⟩
      obtain ⟨t, ht, -⟩ := State.frames_cons hr
      show ({ U with heap := s₂.heap, slotsUsed := s₂.slotsUsed } : State) = { U.setFrames U.frames with heap := s₂.heap, slotsUsed := s₂.slotsUsed }
      rw [State.setFrames_self ht]
    subst hg
    refine Or.inr ⟨q, ⟨(({ U with heap := s₂.heap, slotsUsed := s₂.slotsUsed } : State).setVm s₂.vm), Ls ++ L, c0 + mc, s0 + ms⟩,
      ⟨X.admits, X.cas, X.clock, X.frames, X.room, X.hears, X.method, X.code, (X.here.setHeapUsed s₂.heap s₂.slotsUsed).setVm hW'.alike, X.tail, State.WarmedH.trans X.warmed hW', X.limits, X.bytes, X.same.trans (hsame.setVm s.vm)⟩,
      ⟨g, mk, s₂, L, E, ce, rfl, rfl, hx, hce, hcv, hcl, rfl, hL, rfl, rfl⟩, ?_⟩
    show Steps p.tables e below _ (((({ U with heap := s₂.heap, slotsUsed := s₂.slotsUsed } : State).setVm s₂.vm).setTop g).pushFrame (.throwing q))
    rw [← hs₂]
    exact hsteps
end Payer
section Calls
variable {p : Program} {l : Launch} {e : Env} {R : Room} {s : State} {m : MethodId} {args : Array Value} {below : List Frame} {meth : Method} {c : Code} {T : State} {locs : List Loc} {cells slots : Nat}
theorem vx_callV (X : Stand p l e R s m args below meth c T locs cells slots) (hexec : p.tables.exec = Jvm.exec) {own C : String} {index : Nat} {y : MethodName} {bytes : ByteArray} {maxL : Nat} {ret : Option FieldType}
    (hown : s.vm.findClass own = some m.cls) (hlink : (Cond.methodLink own index y).before args s = true) (hinst : (Cond.instanceMethod y).before args s = true) (hsel : (Cond.selects C y y).before args s = true)
    (hcode : (Cond.code y bytes maxL ret).before args s = true) (hy : y.cls ≠ "java/lang/invoke/MethodHandle" ∧ y.cls ≠ "java/lang/invoke/VarHandle")
    {W9 : Nat} {Pre : Pt → Array Value → Prop} {Post : Pt → Array Value → Option Value → Pt → Prop} {PostX : Pt → Array Value → Addr → Pt → Prop} (hK : vx_Back l R p e below s args y 3 W9 Pre Post PostX)
    {b : Addr} {cellB : Cell} (hcell : T.heap[b]? = some cellB) (hobj : cellB.vm.isStatics = false) (hcls : s.vm.findClass C = some cellB.cls)
    {g : JFrame} (hg : g.method = m) (hsize : g.locals.size = c.maxLocals) {argsL rest : List Value} (hlen : ∀ sig, parseMethodDescriptor y.desc = some sig → argsL.length = sig.parameters.length)
    (hstack : g.stack = argsL.reverse ++ .ref b :: rest) (hW : 2 * g.monitorRoom + (rest.map fun v => v.category).sum ≤ W9) (hdg : decode c.code g.pc = .ok (.invokevirtual index, 3))
    (hpre : ∀ vm₁, s.WarmedH vm₁ → Pre ⟨T.setVm vm₁, locs, cells, slots⟩ (Value.ref b :: argsL).toArray) :
    (∃ (v : Option Value) (vm₁ : Vm) (B : Pt), s.WarmedH vm₁ ∧ Stand p l e R s m args below meth c B.U B.locs B.cells B.slots ∧ Post ⟨T.setVm vm₁, locs, cells, slots⟩ (Value.ref b :: argsL).toArray v B ∧
      ∀ target, Steps p.tables e below (B.U.setTop { g with pc := g.pc + 3, stack := v.toList ++ rest }) target → Steps p.tables e below (T.setTop g) target) ∨
    (∃ (q : Addr) (vm₁ : Vm) (B : Pt), s.WarmedH vm₁ ∧ Stand p l e R s m args below meth c B.U B.locs B.cells B.slots ∧ PostX ⟨T.setVm vm₁, locs, cells, slots⟩ (Value.ref b :: argsL).toArray q B ∧
      Steps p.tables e below (T.setTop g) ((B.U.setTop { g with stack := rest }).pushFrame (.throwing q))) := by
  obtain ⟨mk, methM, hnamed, hmethM, hstM, habM⟩ := Cond.instanceMethod_spec hinst
  obtain ⟨methM', cM, hmethM', -, -, -, -, -, -, hsigM⟩ := Cond.code_spec hnamed hcode
  cases hmethM.symm.trans hmethM'
  obtain ⟨c2, r2, m2, q1, q2, q3, q4, kP, hkP, hkPi⟩ := Cond.selects_spec hsel
  cases hcls.symm.trans q1
  cases (State.methodFound?_of_named hnamed hy).symm.trans q2
  cases hnamed.symm.trans q3
  have hselP : selectMethod e.platform s.vm cellB.cls mk = .method mk := by rw [Launch.admits_selectMethod X.admits]; exact q4
  obtain ⟨vm₁, X₁, hstep₁⟩ := X.invokevirtual hexec hown hlink hnamed hmethM hstM hkP hkPi hy (a := b) (cell := cellB) hcell
    (fun z h => by rw [h] at hobj; cases hobj) hselP hmethM habM hkP hkPi (g := g) hg (argsL := argsL) (rest := rest) (hlen _ hsigM) hstack hdg
  rcases hK m meth c ⟨T.setVm vm₁, locs, cells, slots⟩ { g with stack := rest } (.invokevirtual index) mk (Value.ref b :: argsL).toArray X₁ hg hsize hdg hW (X₁.named hnamed) (hpre vm₁ X₁.warmed) with ⟨v, B, X', hpost, hsteps⟩ | ⟨q, B, X', hpost, hsteps⟩
  · exact Or.inl ⟨v, vm₁, B, X₁.warmed, X', hpost, fun target h => hstep₁ _ fun acts => by rw [doInvoke_state]; exact hsteps.trans h⟩
  · exact Or.inr ⟨q, vm₁, B, X₁.warmed, X', hpost, hstep₁ _ fun acts => by rw [doInvoke_state]; exact hsteps⟩
theorem vx_callS (X : Stand p l e R s m args below meth c T locs cells slots) (hexec : p.tables.exec = Jvm.exec) {own : String} {index : Nat} {y : MethodName} {bytes : ByteArray} {maxL : Nat} {ret : Option FieldType}
    (hown : s.vm.findClass own = some m.cls) (hlink : (Cond.methodLink own index y).before args s = true) (hstat : (Cond.static y).before args s = true) (hinit : (Cond.initialized y.cls).before args s = true)
    (hcode : (Cond.code y bytes maxL ret).before args s = true) (hy : y.cls ≠ "java/lang/invoke/MethodHandle" ∧ y.cls ≠ "java/lang/invoke/VarHandle")
    {W9 : Nat} {Pre : Pt → Array Value → Prop} {Post : Pt → Array Value → Option Value → Pt → Prop} {PostX : Pt → Array Value → Addr → Pt → Prop} (hK : vx_Back l R p e below s args y 3 W9 Pre Post PostX)
    {g : JFrame} (hg : g.method = m) (hsize : g.locals.size = c.maxLocals) {argsL rest : List Value} (hlen : ∀ sig, parseMethodDescriptor y.desc = some sig → argsL.length = sig.parameters.length)
    (hstack : g.stack = argsL.reverse ++ rest) (hW : 2 * g.monitorRoom + (rest.map fun v => v.category).sum ≤ W9) (hdg : decode c.code g.pc = .ok (.invokestatic index, 3))
    (hpre : ∀ vm₁, s.WarmedH vm₁ → Pre ⟨T.setVm vm₁, locs, cells, slots⟩ argsL.toArray) :
    (∃ (v : Option Value) (vm₁ : Vm) (B : Pt), s.WarmedH vm₁ ∧ Stand p l e R s m args below meth c B.U B.locs B.cells B.slots ∧ Post ⟨T.setVm vm₁, locs, cells, slots⟩ argsL.toArray v B ∧
      ∀ target, Steps p.tables e below (B.U.setTop { g with pc := g.pc + 3, stack := v.toList ++ rest }) target → Steps p.tables e below (T.setTop g) target) ∨
    (∃ (q : Addr) (vm₁ : Vm) (B : Pt), s.WarmedH vm₁ ∧ Stand p l e R s m args below meth c B.U B.locs B.cells B.slots ∧ PostX ⟨T.setVm vm₁, locs, cells, slots⟩ argsL.toArray q B ∧
      Steps p.tables e below (T.setTop g) ((B.U.setTop { g with stack := rest }).pushFrame (.throwing q))) := by
  obtain ⟨mk, hnamed⟩ := Cond.code_named hcode
  obtain ⟨methM, cM, hmethM, -, -, -, -, -, -, hsigM⟩ := Cond.code_spec hnamed hcode
  have hstatic : methM.isStatic = true := Cond.static_spec hnamed hmethM hstat
  obtain ⟨kP, hkP, -⟩ := className_of_methodNamed hnamed
  have hinitP : kP.init = .initialized := Cond.initialized_spec (findClass_of_methodNamed hnamed) hkP hinit
  obtain ⟨vm₁, X₁, hstep₁⟩ := X.invokestatic hexec hown hlink hnamed hmethM hstatic hkP hinitP hy (g := g) hg (argsL := argsL) (rest := rest) (hlen _ hsigM) hstack hdg
  rcases hK m meth c ⟨T.setVm vm₁, locs, cells, slots⟩ { g with stack := rest } (.invokestatic index) mk argsL.toArray X₁ hg hsize hdg hW (X₁.named hnamed) (hpre vm₁ X₁.warmed) with ⟨v, B, X', hpost, hsteps⟩ | ⟨q, B, X', hpost, hsteps⟩
  · exact Or.inl ⟨v, vm₁, B, X₁.warmed, X', hpost, fun target h => hstep₁ _ fun acts => by rw [doInvoke_state]; exact hsteps.trans h⟩
  · exact Or.inr ⟨q, vm₁, B, X₁.warmed, X', hpost, hstep₁ _ fun acts => by rw [doInvoke_state]; exact hsteps⟩
end Calls
theorem vx_cls {s : State} {T : State} {vm₁ : Vm} {E : String} {k : ClassId} (hW : s.WarmedH vm₁) (h : (T.setVm vm₁).vm.findClass E = some k) : s.vm.findClass E = some k := by
  have h1 : vm₁.findClass E = some k := h
  rw [hW.alike.findClass] at h1
  exact h1
/-- the method's frame g, with q thrown over it -/
def vx_W (p : Program) (l : Launch) (e : Env) (R : Room) (s : State) (m : MethodId) (args : Array Value) (below : List Frame) (meth : Method) (c : Code) (H : Heap) (locs : List Loc) (cells slots : Nat) (Q : State → Prop) (g : JFrame) (q : Addr) : Prop :=
  ∀ T : State, T.heap = H → Stand p l e R s m args below meth c T locs cells slots → ∃ t, Steps p.tables e below ((T.setTop g).pushFrame (.throwing q)) t ∧ Q t
def vx_Run (p : Program) (l : Launch) (e : Env) (R : Room) (s : State) (m : MethodId) (args : Array Value) (below : List Frame) (meth : Method) (c : Code) (H : Heap) (locs : List Loc) (cells slots mc ms : Nat) (g : JFrame) (rest : List Value) (Qa : State → Outcome → State → Prop) (XC : String → State → State → Prop) (free : Addr → Prop) : Prop :=
  ∀ T : State, T.heap = H → Stand p l e R s m args below meth c T locs cells slots →
    (∃ (v : Option Value) (st₀ t T' : State) (L : List Loc), st₀.heap = H ∧ Stand p l e R s m args below meth c T' (locs ++ L) (cells + mc) (slots + ms) ∧ (∀ q ∈ L, free q.base) ∧ T'.heap = t.heap ∧ T'.vm = t.vm ∧ Qa st₀ (.returned v) t ∧
      Goes p e below T g T' { g with pc := g.pc + 3, stack := v.toList ++ rest }) ∨
    (∃ (q : Addr) (st₀ t T' : State) (L : List Loc) (E : String) (ce : Cell), st₀.heap = H ∧ Stand p l e R s m args below meth c T' (locs ++ L) (cells + mc) (slots + ms) ∧ (∀ z ∈ L, free z.base) ∧ T'.heap = t.heap ∧ T'.vm = t.vm ∧ XC E st₀ t ∧ t.heap[q]? = some ce ∧ ce.vm = .none ∧ s.vm.findClass E = some ce.cls ∧
      Steps p.tables e below (T.setTop g) ((T'.setTop { g with stack := rest }).pushFrame (.throwing q)))
def vx_X {S : Type} (px : S → Prop) (B : String → S → State → Prop) (A : Nat → Prop) : String → State → State → Prop := fun E st t => ∃ u : S, px u ∧ B E u t ∧ va_F A st t
section Runs
variable {p : Program} {l : Launch} {e : Env} {R : Room} {s : State} {m : MethodId} {args : Array Value} {below : List Frame} {meth : Method} {c : Code} {H : Heap} {locs : List Loc} {cells slots : Nat}
variable {y : MethodName} {bytes cc : ByteArray} {maxL nL mc ms n index : Nat} {ret : Option FieldType} {ws : List Cond} {rm : Room} {Pc : Array Value → State → Prop} {Qc : Array Value → State → Outcome → State → Prop} {XC : String → State → State → Prop} {free : Addr → Prop} {Ts : List Cond} {own C : String} {b : Addr} {As rest : List Value} {g : JFrame}
theorem vx_callBack (cb : CallB R s args own index y bytes maxL ret ws rm mc ms n) (hM : vx_Met l y ws rm Pc Qc XC mc ms free) (hbl : FrameBlind Pc) : vx_Back l R p e below s args y 3 8 (PreOf R mc ms Pc) (PostOf Qc mc ms free) (vx_Post XC mc ms free) := by
  obtain ⟨hrc, hrs, hfr, hlo, hws, hcw, -, hini, -⟩ := cb
  exact vx_back (bytes := bytes) (maxL := maxL) (ret := ret) hM hbl hrc hrs hfr hlo hws hcw (fun a' U hW => word_at hW (Or.inl (by first | rfl | simp [Cond.onTables, Cond.keeps, Cond.steady])) hini)
theorem vx_runV (S : CallFix p m c cc nL s args Ts own) (hM : vx_Met l y ws rm Pc Qc XC mc ms free) (cw : CallW R s args own C index y bytes maxL ret ws rm mc ms n) (hp : PreV s H C b Pc As)
    (hg : g.method = m) (hn : As.length = n) (hsize : g.locals.size = nL) (hstack : g.stack = As.reverse ++ .ref b :: rest) (hW : 2 * g.monitorRoom + (rest.map fun v => v.category).sum ≤ 8) (hdg : decode cc g.pc = .ok (.invokevirtual index, 3)) (hf : cells + mc ≤ R.cells ∧ slots + ms ≤ R.slots) :
    vx_Run p l e R s m args below meth c H locs cells slots mc ms g rest (Qc (Value.ref b :: As).toArray) XC free := by
  have hK : vx_Back l R p e below s args y 3 8 (PreOf R mc ms Pc) (PostOf Qc mc ms free) (vx_Post XC mc ms free) := vx_callBack cw.1 hM hp.1
  obtain ⟨⟨-, -, -, -, -, -, hcode, -, hy, hlen, hl⟩, hin, hse⟩ := cw
  obtain ⟨hx, hb, hml, ho, -⟩ := S
  obtain ⟨-, ⟨cellB, hcB, hoB, hclB⟩, hPc⟩ := hp
  intro T hT X
  rcases vx_callV X hx (C := C) (bytes := bytes) (maxL := maxL) (ret := ret) ho hl hin hse hcode hy hK (by rw [hT]; exact hcB) hoB hclB hg (hsize.trans hml.symm) (argsL := As) (rest := rest) (fun sig h => hn.trans (hlen sig h)) hstack hW (by rw [hb]; exact hdg)
    (fun vm₁ hW₁ => ⟨hf.1, hf.2, hPc (T.setVm vm₁) hT hW₁⟩) with ⟨v, vm₁, ⟨U', l2, c2, s2⟩, hW₁, X', ⟨g', mk, t, L, e1, e2, hq, h1, hL, h2, h3⟩, st⟩ | ⟨q, vm₁, ⟨U', l2, c2, s2⟩, hW₁, X', ⟨g', mk, t, L, E, ce, e1, e2, hq, hce, hcv, hcl, h1, hL, h2, h3⟩, st⟩
  · dsimp only [Pt.U, Pt.locs, Pt.cells, Pt.slots] at X' e1 e2 h1 h2 h3 st
    subst h1; subst h2; subst h3
    exact Or.inl ⟨v, (T.setVm vm₁).calling g' mk (Value.ref b :: As).toArray, t, U', L, hT, X', hL, e1, e2, hq, st⟩
  · dsimp only [Pt.U, Pt.locs, Pt.cells, Pt.slots] at X' e1 e2 h1 h2 h3 st hcl
    subst h1; subst h2; subst h3
    exact Or.inr ⟨q, (T.setVm vm₁).calling g' mk (Value.ref b :: As).toArray, t, U', L, E, ce, hT, X', hL, e1, e2, hq, hce, hcv, vx_cls hW₁ hcl, st⟩
theorem vx_runS (S : CallFix p m c cc nL s args Ts own) (hM : vx_Met l y ws rm Pc Qc XC mc ms free) (cw : CallB R s args own index y bytes maxL ret ws rm mc ms n ∧ (Cond.static y).before args s = true) (hp : PreS s H Pc As)
    (hg : g.method = m) (hn : As.length = n) (hsize : g.locals.size = nL) (hstack : g.stack = As.reverse ++ rest) (hW : 2 * g.monitorRoom + (rest.map fun v => v.category).sum ≤ 8) (hdg : decode cc g.pc = .ok (.invokestatic index, 3)) (hf : cells + mc ≤ R.cells ∧ slots + ms ≤ R.slots) :
    vx_Run p l e R s m args below meth c H locs cells slots mc ms g rest (Qc As.toArray) XC free := by
  have hK : vx_Back l R p e below s args y 3 8 (PreOf R mc ms Pc) (PostOf Qc mc ms free) (vx_Post XC mc ms free) := vx_callBack cw.1 hM hp.1
  obtain ⟨⟨-, -, -, -, -, -, hcode, hini, hy, hlen, hl⟩, hstt⟩ := cw
  obtain ⟨hx, hb, hml, ho, -⟩ := S
  intro T hT X
  rcases vx_callS X hx (bytes := bytes) (maxL := maxL) (ret := ret) ho hl hstt hini hcode hy hK hg (hsize.trans hml.symm) (argsL := As) (rest := rest) (fun sig h => hn.trans (hlen sig h)) hstack hW (by rw [hb]; exact hdg)
    (fun vm₁ hW₁ => ⟨hf.1, hf.2, hp.2 (T.setVm vm₁) hT hW₁⟩) with ⟨v, vm₁, ⟨U', l2, c2, s2⟩, hW₁, X', ⟨g', mk, t, L, e1, e2, hq, h1, hL, h2, h3⟩, st⟩ | ⟨q, vm₁, ⟨U', l2, c2, s2⟩, hW₁, X', ⟨g', mk, t, L, E, ce, e1, e2, hq, hce, hcv, hcl, h1, hL, h2, h3⟩, st⟩
  · dsimp only [Pt.U, Pt.locs, Pt.cells, Pt.slots] at X' e1 e2 h1 h2 h3 st
    subst h1; subst h2; subst h3
    exact Or.inl ⟨v, (T.setVm vm₁).calling g' mk As.toArray, t, U', L, hT, X', hL, e1, e2, hq, st⟩
  · dsimp only [Pt.U, Pt.locs, Pt.cells, Pt.slots] at X' e1 e2 h1 h2 h3 st hcl
    subst h1; subst h2; subst h3
    exact Or.inr ⟨q, (T.setVm vm₁).calling g' mk As.toArray, t, U', L, E, ce, hT, X', hL, e1, e2, hq, hce, hcv, vx_cls hW₁ hcl, st⟩
end Runs
section Rows
variable {p : Program} {l : Launch} {e : Env} {R : Room} {s : State} {m : MethodId} {args : Array Value} {below : List Frame} {meth : Method} {c : Code} {H : Heap} {locs : List Loc} {cells slots : Nat} {Q : State → Prop}
variable {mc ms : Nat} {free : Addr → Prop} {A0 A1 : Nat → Prop} {H0 : Heap} {a : Array Value} {pc : Nat} {ls : Array Slot} {st0 rest : List Value}
theorem vx_keep {st₀ t T' : State} {L : List Loc} (h0 : st₀.heap = H) (e1 : T'.heap = t.heap) (hS : va_S A0 H0 H locs) (hA : ∀ q, q < H.size → A1 q → A0 q) (hf : ∀ q, free q → A0 q) (hL : ∀ q ∈ L, free q.base) (hF : va_F A1 st₀ t) :
    H.size ≤ T'.heap.size ∧ (∀ q : Nat, q < H.size → ¬ A1 q → T'.heap[q]? = H[q]?) ∧ va_S A0 H0 T'.heap (locs ++ L) := by
  obtain ⟨hz, hk⟩ := hF
  rw [h0] at hz hk
  exact ⟨by rw [e1]; exact hz, fun q h1 h2 => by rw [e1]; exact hk q h1 h2,
    ⟨Nat.le_trans hS.1 (by rw [e1]; exact hz), fun q h1 h2 => by rw [e1, hk q (Nat.lt_of_lt_of_le h1 hS.1) (fun z => h2 (hA q (Nat.lt_of_lt_of_le h1 hS.1) z))]; exact hS.2.1 q h1 h2, fun q hq => by
      rcases List.mem_append.mp hq with h | h
      · exact hS.2.2 q h
      · exact hf _ (hL q h)⟩⟩
theorem vx_calli {S SX : Type} {post : Int32 → S → Prop} {px : SX → Prop} {B : S → State → Prop} {BX : String → SX → State → Prop} {AX : Nat → Prop} (hr : vx_Run p l e R s m args below meth c H locs cells slots mc ms (F0 m pc ls st0) rest (va_Qi post B A1 a) (vx_X px BX AX) free) (hS : va_S A0 H0 H locs) (hA : ∀ q, q < H.size → A1 q → A0 q) (hf : ∀ q, free q → A0 q) (hAX : ∀ q, q < H.size → AX q → A0 q)
    (kx : ∀ (E : String) (ce : Cell) (q9 : Addr) (u : SX) (t : State) (H1 : Heap) (locs1 : List Loc), t.heap = H1 → s.vm.Alike t.vm → px u → BX E u t → H.size ≤ H1.size → (∀ q : Nat, q < H.size → ¬ AX q → H1[q]? = H[q]?) → va_S A0 H0 H1 locs1 → H1[q9]? = some ce → ce.vm = .none → s.vm.findClass E = some ce.cls → vx_W p l e R s m args below meth c H1 locs1 (cells + mc) (slots + ms) Q (F0 m pc ls rest) q9)
    (kk : ∀ (r : Int32) (u : S) (t : State) (H1 : Heap) (locs1 : List Loc), t.heap = H1 → s.vm.Alike t.vm → post r u → B u t → H.size ≤ H1.size → (∀ q : Nat, q < H.size → ¬ A1 q → H1[q]? = H[q]?) → va_S A0 H0 H1 locs1 → W p l e R s m args below meth c H1 locs1 (cells + mc) (slots + ms) Q (F0 m (pc + 3) ls (.int r :: rest))) : W p l e R s m args below meth c H locs cells slots Q (F0 m pc ls st0) := by
  intro T hT X
  rcases hr T hT X with ⟨v, st₀, t, T', L, h0, X', hL, e1, e2, ⟨⟨r, u, hv, hp, hb⟩, hF⟩, st⟩ | ⟨q, st₀, t, T', L, E, ce, h0, X', hL, e1, e2, ⟨u, hp, hb, hF⟩, hce, hcv, hcl, st⟩
  · cases hv
    obtain ⟨k1, k2, k3⟩ := vx_keep h0 e1 hS hA hf hL hF
    obtain ⟨t2, a1, b1⟩ := kk r u t T'.heap (locs ++ L) e1.symm (by rw [← e2]; exact X'.warmed.alike) hp hb k1 k2 k3 T' rfl X'
    exact ⟨t2, st t2 a1, b1⟩
  · obtain ⟨k1, k2, k3⟩ := vx_keep h0 e1 hS hAX hf hL hF
    obtain ⟨t2, a1, b1⟩ := kx E ce q u t T'.heap (locs ++ L) e1.symm (by rw [← e2]; exact X'.warmed.alike) hp hb k1 k2 k3 (by rw [e1]; exact hce) hcv hcl T' rfl X'
    exact ⟨t2, st.trans a1, b1⟩
theorem vx_calll {S SX : Type} {post : Int64 → S → Prop} {px : SX → Prop} {B : S → State → Prop} {BX : String → SX → State → Prop} {AX : Nat → Prop} (hr : vx_Run p l e R s m args below meth c H locs cells slots mc ms (F0 m pc ls st0) rest (va_Ql post B A1 a) (vx_X px BX AX) free) (hS : va_S A0 H0 H locs) (hA : ∀ q, q < H.size → A1 q → A0 q) (hf : ∀ q, free q → A0 q) (hAX : ∀ q, q < H.size → AX q → A0 q)
    (kx : ∀ (E : String) (ce : Cell) (q9 : Addr) (u : SX) (t : State) (H1 : Heap) (locs1 : List Loc), t.heap = H1 → s.vm.Alike t.vm → px u → BX E u t → H.size ≤ H1.size → (∀ q : Nat, q < H.size → ¬ AX q → H1[q]? = H[q]?) → va_S A0 H0 H1 locs1 → H1[q9]? = some ce → ce.vm = .none → s.vm.findClass E = some ce.cls → vx_W p l e R s m args below meth c H1 locs1 (cells + mc) (slots + ms) Q (F0 m pc ls rest) q9)
    (kk : ∀ (r : Int64) (u : S) (t : State) (H1 : Heap) (locs1 : List Loc), t.heap = H1 → s.vm.Alike t.vm → post r u → B u t → H.size ≤ H1.size → (∀ q : Nat, q < H.size → ¬ A1 q → H1[q]? = H[q]?) → va_S A0 H0 H1 locs1 → W p l e R s m args below meth c H1 locs1 (cells + mc) (slots + ms) Q (F0 m (pc + 3) ls (.long r :: rest))) : W p l e R s m args below meth c H locs cells slots Q (F0 m pc ls st0) := by
  intro T hT X
  rcases hr T hT X with ⟨v, st₀, t, T', L, h0, X', hL, e1, e2, ⟨⟨r, u, hv, hp, hb⟩, hF⟩, st⟩ | ⟨q, st₀, t, T', L, E, ce, h0, X', hL, e1, e2, ⟨u, hp, hb, hF⟩, hce, hcv, hcl, st⟩
  · cases hv
    obtain ⟨k1, k2, k3⟩ := vx_keep h0 e1 hS hA hf hL hF
    obtain ⟨t2, a1, b1⟩ := kk r u t T'.heap (locs ++ L) e1.symm (by rw [← e2]; exact X'.warmed.alike) hp hb k1 k2 k3 T' rfl X'
    exact ⟨t2, st t2 a1, b1⟩
  · obtain ⟨k1, k2, k3⟩ := vx_keep h0 e1 hS hAX hf hL hF
    obtain ⟨t2, a1, b1⟩ := kx E ce q u t T'.heap (locs ++ L) e1.symm (by rw [← e2]; exact X'.warmed.alike) hp hb k1 k2 k3 (by rw [e1]; exact hce) hcv hcl T' rfl X'
    exact ⟨t2, st.trans a1, b1⟩
theorem vx_callf {S SX : Type} {post : UInt32 → S → Prop} {px : SX → Prop} {B : S → State → Prop} {BX : String → SX → State → Prop} {AX : Nat → Prop} (hr : vx_Run p l e R s m args below meth c H locs cells slots mc ms (F0 m pc ls st0) rest (va_Qf post B A1 a) (vx_X px BX AX) free) (hS : va_S A0 H0 H locs) (hA : ∀ q, q < H.size → A1 q → A0 q) (hf : ∀ q, free q → A0 q) (hAX : ∀ q, q < H.size → AX q → A0 q)
    (kx : ∀ (E : String) (ce : Cell) (q9 : Addr) (u : SX) (t : State) (H1 : Heap) (locs1 : List Loc), t.heap = H1 → s.vm.Alike t.vm → px u → BX E u t → H.size ≤ H1.size → (∀ q : Nat, q < H.size → ¬ AX q → H1[q]? = H[q]?) → va_S A0 H0 H1 locs1 → H1[q9]? = some ce → ce.vm = .none → s.vm.findClass E = some ce.cls → vx_W p l e R s m args below meth c H1 locs1 (cells + mc) (slots + ms) Q (F0 m pc ls rest) q9)
    (kk : ∀ (r : UInt32) (u : S) (t : State) (H1 : Heap) (locs1 : List Loc), t.heap = H1 → s.vm.Alike t.vm → post r u → B u t → H.size ≤ H1.size → (∀ q : Nat, q < H.size → ¬ A1 q → H1[q]? = H[q]?) → va_S A0 H0 H1 locs1 → W p l e R s m args below meth c H1 locs1 (cells + mc) (slots + ms) Q (F0 m (pc + 3) ls (.float r :: rest))) : W p l e R s m args below meth c H locs cells slots Q (F0 m pc ls st0) := by
  intro T hT X
  rcases hr T hT X with ⟨v, st₀, t, T', L, h0, X', hL, e1, e2, ⟨⟨r, u, hv, hp, hb⟩, hF⟩, st⟩ | ⟨q, st₀, t, T', L, E, ce, h0, X', hL, e1, e2, ⟨u, hp, hb, hF⟩, hce, hcv, hcl, st⟩
  · cases hv
    obtain ⟨k1, k2, k3⟩ := vx_keep h0 e1 hS hA hf hL hF
    obtain ⟨t2, a1, b1⟩ := kk r u t T'.heap (locs ++ L) e1.symm (by rw [← e2]; exact X'.warmed.alike) hp hb k1 k2 k3 T' rfl X'
    exact ⟨t2, st t2 a1, b1⟩
  · obtain ⟨k1, k2, k3⟩ := vx_keep h0 e1 hS hAX hf hL hF
    obtain ⟨t2, a1, b1⟩ := kx E ce q u t T'.heap (locs ++ L) e1.symm (by rw [← e2]; exact X'.warmed.alike) hp hb k1 k2 k3 (by rw [e1]; exact hce) hcv hcl T' rfl X'
    exact ⟨t2, st.trans a1, b1⟩
theorem vx_calld {S SX : Type} {post : UInt64 → S → Prop} {px : SX → Prop} {B : S → State → Prop} {BX : String → SX → State → Prop} {AX : Nat → Prop} (hr : vx_Run p l e R s m args below meth c H locs cells slots mc ms (F0 m pc ls st0) rest (va_Qd post B A1 a) (vx_X px BX AX) free) (hS : va_S A0 H0 H locs) (hA : ∀ q, q < H.size → A1 q → A0 q) (hf : ∀ q, free q → A0 q) (hAX : ∀ q, q < H.size → AX q → A0 q)
    (kx : ∀ (E : String) (ce : Cell) (q9 : Addr) (u : SX) (t : State) (H1 : Heap) (locs1 : List Loc), t.heap = H1 → s.vm.Alike t.vm → px u → BX E u t → H.size ≤ H1.size → (∀ q : Nat, q < H.size → ¬ AX q → H1[q]? = H[q]?) → va_S A0 H0 H1 locs1 → H1[q9]? = some ce → ce.vm = .none → s.vm.findClass E = some ce.cls → vx_W p l e R s m args below meth c H1 locs1 (cells + mc) (slots + ms) Q (F0 m pc ls rest) q9)
    (kk : ∀ (r : UInt64) (u : S) (t : State) (H1 : Heap) (locs1 : List Loc), t.heap = H1 → s.vm.Alike t.vm → post r u → B u t → H.size ≤ H1.size → (∀ q : Nat, q < H.size → ¬ A1 q → H1[q]? = H[q]?) → va_S A0 H0 H1 locs1 → W p l e R s m args below meth c H1 locs1 (cells + mc) (slots + ms) Q (F0 m (pc + 3) ls (.double r :: rest))) : W p l e R s m args below meth c H locs cells slots Q (F0 m pc ls st0) := by
  intro T hT X
  rcases hr T hT X with ⟨v, st₀, t, T', L, h0, X', hL, e1, e2, ⟨⟨r, u, hv, hp, hb⟩, hF⟩, st⟩ | ⟨q, st₀, t, T', L, E, ce, h0, X', hL, e1, e2, ⟨u, hp, hb, hF⟩, hce, hcv, hcl, st⟩
  · cases hv
    obtain ⟨k1, k2, k3⟩ := vx_keep h0 e1 hS hA hf hL hF
    obtain ⟨t2, a1, b1⟩ := kk r u t T'.heap (locs ++ L) e1.symm (by rw [← e2]; exact X'.warmed.alike) hp hb k1 k2 k3 T' rfl X'
    exact ⟨t2, st t2 a1, b1⟩
  · obtain ⟨k1, k2, k3⟩ := vx_keep h0 e1 hS hAX hf hL hF
    obtain ⟨t2, a1, b1⟩ := kx E ce q u t T'.heap (locs ++ L) e1.symm (by rw [← e2]; exact X'.warmed.alike) hp hb k1 k2 k3 (by rw [e1]; exact hce) hcv hcl T' rfl X'
    exact ⟨t2, st.trans a1, b1⟩
theorem vx_callv {S SX : Type} {post : S → Prop} {px : SX → Prop} {B : S → State → Prop} {BX : String → SX → State → Prop} {AX : Nat → Prop} (hr : vx_Run p l e R s m args below meth c H locs cells slots mc ms (F0 m pc ls st0) rest (va_Qv post B A1 a) (vx_X px BX AX) free) (hS : va_S A0 H0 H locs) (hA : ∀ q, q < H.size → A1 q → A0 q) (hf : ∀ q, free q → A0 q) (hAX : ∀ q, q < H.size → AX q → A0 q)
    (kx : ∀ (E : String) (ce : Cell) (q9 : Addr) (u : SX) (t : State) (H1 : Heap) (locs1 : List Loc), t.heap = H1 → s.vm.Alike t.vm → px u → BX E u t → H.size ≤ H1.size → (∀ q : Nat, q < H.size → ¬ AX q → H1[q]? = H[q]?) → va_S A0 H0 H1 locs1 → H1[q9]? = some ce → ce.vm = .none → s.vm.findClass E = some ce.cls → vx_W p l e R s m args below meth c H1 locs1 (cells + mc) (slots + ms) Q (F0 m pc ls rest) q9)
    (kk : ∀ (u : S) (t : State) (H1 : Heap) (locs1 : List Loc), t.heap = H1 → s.vm.Alike t.vm → post u → B u t → H.size ≤ H1.size → (∀ q : Nat, q < H.size → ¬ A1 q → H1[q]? = H[q]?) → va_S A0 H0 H1 locs1 → W p l e R s m args below meth c H1 locs1 (cells + mc) (slots + ms) Q (F0 m (pc + 3) ls (rest))) : W p l e R s m args below meth c H locs cells slots Q (F0 m pc ls st0) := by
  intro T hT X
  rcases hr T hT X with ⟨v, st₀, t, T', L, h0, X', hL, e1, e2, ⟨⟨u, hv, hp, hb⟩, hF⟩, st⟩ | ⟨q, st₀, t, T', L, E, ce, h0, X', hL, e1, e2, ⟨u, hp, hb, hF⟩, hce, hcv, hcl, st⟩
  · cases hv
    obtain ⟨k1, k2, k3⟩ := vx_keep h0 e1 hS hA hf hL hF
    obtain ⟨t2, a1, b1⟩ := kk u t T'.heap (locs ++ L) e1.symm (by rw [← e2]; exact X'.warmed.alike) hp hb k1 k2 k3 T' rfl X'
    exact ⟨t2, st t2 a1, b1⟩
  · obtain ⟨k1, k2, k3⟩ := vx_keep h0 e1 hS hAX hf hL hF
    obtain ⟨t2, a1, b1⟩ := kx E ce q u t T'.heap (locs ++ L) e1.symm (by rw [← e2]; exact X'.warmed.alike) hp hb k1 k2 k3 (by rw [e1]; exact hce) hcv hcl T' rfl X'
    exact ⟨t2, st.trans a1, b1⟩
/-- caught by the row x of this method's table; the rows ahead don't take it -/
theorem vx_catch {own name : String} {E : String} {ce : Cell} {q : Addr} (hown : s.vm.findClass own = some m.cls) (pre : List ExceptionTableEntry) (x : ExceptionTableEntry) (suf : List ExceptionTableEntry) (hsplit : c.exceptionTable.toList = pre ++ x :: suf)
    (hpass : ∀ z ∈ pre, covers z pc = false ∨ (z.catchType ≠ 0 ∧ ∃ nm : String, (Cond.classLink own z.catchType nm).before args s = true ∧ va_Nc E nm s)) (hx : covers x pc = true) (h0 : x.catchType ≠ 0)
    (hlink : (Cond.classLink own x.catchType name).before args s = true) (hcast : (Cond.castable E name).before args s = true) (hcell : H[q]? = some ce) (hv : ce.vm = .none) (hcl : s.vm.findClass E = some ce.cls)
    (kk : W p l e R s m args below meth c H locs cells slots Q (F0 m x.handlerPc ls [.ref q])) : vx_W p l e R s m args below meth c H locs cells slots Q (F0 m pc ls rest) q := by
  intro T hT X
  have hpl : e.platform.magicAccessors = ({} : Platform).magicAccessors := by rw [X.admits.platform]
  obtain ⟨c3, c4, hc3, hc4, hasg⟩ := Cond.castable_spec hcast
  cases Option.some.inj (hc3.symm.trans hcl)
  obtain ⟨c5, hc5, hcl5⟩ := Cond.classLink_spec hown hlink e.platform hpl
  cases Option.some.inj (hc4.symm.trans hc5)
  obtain ⟨vm', X', st⟩ := X.thenCaughtThrough q (g := F0 m pc ls rest) rfl (Steps.refl _) (by rw [hT]; exact hcell) (by rw [hv]; rfl) (by obtain ⟨k9, h9, -⟩ := Vm.findClass_spec hcl; exact ⟨k9, h9⟩) pre x suf hsplit
    (fun z hz => by
      rcases hpass z hz with h | ⟨hz0, nm, hl1, hn1⟩
      · exact Or.inl h
      · obtain ⟨c6, hc6, hcl6⟩ := Cond.classLink_spec hown hl1 e.platform hpl
        obtain ⟨a8, b8, h1, h2, h3⟩ := hn1
        cases Option.some.inj (h1.symm.trans hcl)
        cases Option.some.inj (h2.symm.trans hc6)
        exact Or.inr ⟨hz0, _, hcl6, h3⟩) hx (Or.inr ⟨h0, c4, hcl5, hasg⟩)
  obtain ⟨t, a1, b1⟩ := kk (T.setVm vm') hT X'
  exact ⟨t, st.trans a1, b1⟩
end Rows
section Ends
variable {p : Program} {l : Launch} {e : Env} {R : Room} {s : State} {m : MethodId} {args : Array Value} {below : List Frame} {meth : Method} {c : Code} {H : Heap} {locs : List Loc} {cells slots : Nat} {Q : State → Prop}
variable {mc ms : Nat} {free : Addr → Prop} {A0 A1 : Nat → Prop} {H0 : Heap} {a : Array Value} {ls : Array Slot} {st0 rest : List Value}
variable {Qc : Array Value → State → Outcome → State → Prop} {XC : String → State → State → Prop}
/-- what a body that may throw owes at its end -/
def vx_MQ (below : List Frame) (Qc : Array Value → State → Outcome → State → Prop) (XC : String → State → State → Prop) (a : Array Value) (s : State) (mc ms : Nat) (free : Addr → Prop) : State → Prop := fun t =>
  ∃ o, t.status = .running ∧ Ended t below o ∧ vx_Q Qc XC mc ms free a s o t
theorem vx_ret {g : JFrame} {mc ms : Nat} (k : W p l e R s m args below meth c H locs cells slots (MQ below Qc args s mc ms free) g) : W p l e R s m args below meth c H locs cells slots (vx_MQ below Qc XC args s mc ms free) g := by
  intro T hT X
  obtain ⟨t, a1, o, b1, b2, b3, b4⟩ := k T hT X
  exact ⟨t, a1, o, b1, b2, Or.inl ⟨b3, b4⟩⟩
/-- not caught here: it goes on to the caller -/
theorem vx_widen {g : JFrame} {q : Addr} {k n : Nat} (h1 : cells ≤ k) (h2 : slots ≤ n) (kk : vx_W p l e R s m args below meth c H locs k n Q g q) : vx_W p l e R s m args below meth c H locs cells slots Q g q := fun T hT X => kk T hT (stand_widen X h1 h2)
theorem vx_out {pc : Nat} {E : String} {ce : Cell} {q : Addr} {mc ms : Nat} (hout : ∀ x ∈ c.exceptionTable.toList, covers x pc = false) (hlocks : meth.locks = false) (hcell : H[q]? = some ce) (hv : ce.vm = .none) (hcl : s.vm.findClass E = some ce.cls)
    (hx : ∀ t : State, t.heap = H → s.vm.Alike t.vm → XC E s t) (hf : ∀ z ∈ locs, free z.base) (hc : cells ≤ mc) (hs : slots ≤ ms) :
    vx_W p l e R s m args below meth c H locs cells slots (vx_MQ below Qc XC args s mc ms free) (F0 m pc ls rest) q := by
  intro T hT X
  obtain ⟨st1, hrun, hend, hW, hsm⟩ := X.leaveThrown q (g := F0 m pc ls rest) rfl rfl rfl hout hlocks
  have hcell9 : (T.setFrames (.throwing q :: below)).heap[q]? = some ce := by
    show T.heap[q]? = some ce
    rw [hT]; exact hcell
  exact ⟨_, st1, .threw q, hrun, hend, Or.inr ⟨q, rfl, E, ce, locs, hx _ hT hW.alike, hcell9, hv, hcl, hW, hsm.mono hc hs, hf⟩⟩
theorem vx_frame {U : State} {k n : Nat} (h : s.sameButNew ({ U with vm := s.vm } : State) locs k n) : s.heap.size ≤ U.heap.size ∧ ∀ q : Nat, q < s.heap.size → (∀ z ∈ locs, z.base ≠ q) → U.heap[q]? = s.heap[q]? := by
  obtain ⟨-, h2, -, -, -, h6⟩ := h
  refine ⟨h2, fun q hq hz => ?_⟩
  obtain ⟨c9, e1, e2, e3, e4⟩ := h6 q _ (Array.getElem?_eq_getElem hq)
  have hs : c9.slots = (s.heap[q]).slots := Array.ext_getElem? fun i => e4 i fun hm => hz _ hm rfl
  have h9 : c9 = s.heap[q] := by
    rw [hs] at e2
    exact e2
  have e5 : U.heap[q]? = some c9 := e1
  rw [e5, h9, Array.getElem?_eq_getElem hq]
/-- the words of a throw but the four that speak of the heap -/
def vx_no (w : Cond) : Bool := decide (w ≠ .isRef (.static Bundle.tN "UNASSIGNED_STACK" Bundle.steD)) && decide (w ≠ .isRef (.static Bundle.tN "SUPPRESSED_SENTINEL" Bundle.listD)) && decide (w ≠ .laysStatic Bundle.tN "UNASSIGNED_STACK" Bundle.steD) && decide (w ≠ .laysStatic Bundle.tN "SUPPRESSED_SENTINEL" Bundle.listD)
def vx_at0 (own : String) (ic : Nat) (X : String) (names : List String) : List Cond := (Bundle.ownAtoms0 own ic X names).filter vx_no
def vx_atS (own : String) (ic : Nat) (X : String) (names : List String) : List Cond := (Bundle.ownAtoms own ic X names).filter vx_no
/-- a word that the tables alone decide, or a good one -/
def vx_ot (w : Cond) : Bool := w.onTables || goodWord w
theorem vx_ot_at {args a' : Array Value} {s U : State} {w : Cond} (hW : s.WarmedH U.vm) (hvm : s.vm = U.vm) (hg : vx_ot w = true) (h : w.before args s = true) : w.before a' U = true := by
  simp only [vx_ot, Bool.or_eq_true] at hg
  rcases hg with hg | hg
  · exact va_tabs hg hvm h
  · exact word_at hW (good_of_word hg) h
/-- a list's words: the good ones out of the method's own list, the others by premises of their own -/
theorem vx_hat {args : Array Value} {s : State} {L B : List Cond} (h1 : ∀ w ∈ L.filter goodWord, w.before args s = true) (h2 : ∀ w ∈ L.filter (fun w => !goodWord w), w ∈ B) (h3 : ∀ w ∈ B, w.before args s = true) : ∀ w ∈ L, w.before args s = true := by
  intro w hw
  by_cases g : goodWord w = true
  · exact h1 w (List.mem_filter.mpr ⟨hw, g⟩)
  · refine h3 w (h2 w (List.mem_filter.mpr ⟨hw, ?_⟩))
    show (!goodWord w) = true
    cases hgw : goodWord w
    · rfl
    · exact absurd hgw g
theorem vx_c {args : Array Value} {s : State} {w : Cond} {B : List Cond} (h : w.before args s = true) (t : ∀ w ∈ B, w.before args s = true) : ∀ w' ∈ w :: B, w'.before args s = true := fun w' h' => (List.mem_cons.mp h').elim (fun e => by rw [e]; exact h) (t w')
theorem vx_n {args : Array Value} {s : State} : ∀ w ∈ ([] : List Cond), w.before args s = true := fun _ h => nomatch h
theorem vx_own {args : Array Value} {s : State} {L : List Cond} (h1 : ∀ w ∈ L.filter vx_no, w.before args s = true)
    (hU : (Cond.isRef (.static Bundle.tN "UNASSIGNED_STACK" Bundle.steD)).before args s = true) (hN : (Cond.isRef (.static Bundle.tN "SUPPRESSED_SENTINEL" Bundle.listD)).before args s = true)
    (lU : (Cond.laysStatic Bundle.tN "UNASSIGNED_STACK" Bundle.steD).before args s = true) (lN : (Cond.laysStatic Bundle.tN "SUPPRESSED_SENTINEL" Bundle.listD).before args s = true) : ∀ w ∈ L, w.before args s = true := by
  intro w hw
  by_cases e1 : w = .isRef (.static Bundle.tN "UNASSIGNED_STACK" Bundle.steD)
  · rw [e1]; exact hU
  · by_cases e2 : w = .isRef (.static Bundle.tN "SUPPRESSED_SENTINEL" Bundle.listD)
    · rw [e2]; exact hN
    · by_cases e3 : w = .laysStatic Bundle.tN "UNASSIGNED_STACK" Bundle.steD
      · rw [e3]; exact lU
      · by_cases e4 : w = .laysStatic Bundle.tN "SUPPRESSED_SENTINEL" Bundle.listD
        · rw [e4]; exact lN
        · exact h1 w (List.mem_filter.mpr ⟨hw, by unfold vx_no; rw [decide_eq_true e1, decide_eq_true e2, decide_eq_true e3, decide_eq_true e4]; rfl⟩)
/-- where a static field lies, its class's statics cell in H -/
def vx_L (C n d : String) (A : Nat → Prop) (U : State) (H : Heap) : Prop := ∃ (c : ClassId) (k : Class) (i : Nat) (f : Field) (a : Nat) (cell : Cell), U.vm.findClass C = some c ∧ U.fieldFound? C n d = some (c, k, i, f) ∧ f.isStatic = true ∧ k.statics = some a ∧ H[a]? = some cell ∧ cell.vm.isStatics = true ∧ cell.cls = c ∧ f.slot < cell.slots.size ∧ k.staticTypes[f.slot]? = some f.type ∧ ¬ A a
theorem vx_L.moved {C n d : String} {A : Nat → Prop} {u U : State} {H : Heap} (hvm : u.vm.Alike U.vm) (h : vx_L C n d A u H) : vx_L C n d A U H := by
  obtain ⟨c, k, i, f, a, cell, h1, h2, h3, h4, h5, h6, h7, h8, h9, h10⟩ := h
  obtain ⟨k', hi', he⟩ := State.fieldFound?_setVm hvm h2
  exact ⟨c, k', i, f, a, cell, by rw [hvm.findClass]; exact h1, hi', h3, by rw [he]; exact h4, h5, h6, h7, h8, by rw [he]; exact h9, h10⟩
theorem vx_L.kept {C n d : String} {A : Nat → Prop} {U : State} {H H1 : Heap} (h : vx_L C n d A U H) (hq : ∀ a : Nat, a < H.size → ¬ A a → H1[a]? = H[a]?) : vx_L C n d A U H1 := by
  obtain ⟨c, k, i, f, a, cell, h1, h2, h3, h4, h5, h6, h7, h8, h9, h10⟩ := h
  exact ⟨c, k, i, f, a, cell, h1, h2, h3, h4, by rw [hq a (Array.getElem?_eq_some_iff.mp h5).1 h10]; exact h5, h6, h7, h8, h9, h10⟩
theorem vx_L.narrow {C n d : String} {A B : Nat → Prop} {U : State} {H : Heap} (h : vx_L C n d A U H) (hAB : ∀ q, B q → A q) : vx_L C n d B U H := by
  obtain ⟨c, k, i, f, a, cell, h1, h2, h3, h4, h5, h6, h7, h8, h9, h10⟩ := h
  exact ⟨c, k, i, f, a, cell, h1, h2, h3, h4, h5, h6, h7, h8, h9, fun z => h10 (hAB _ z)⟩
theorem vx_L.word {C n d : String} {A : Nat → Prop} {s : State} {args : Array Value} (h : vx_L C n d A s s.heap) : (Cond.laysStatic C n d).before args s = true := by
  obtain ⟨c, k, i, f, a, cell, h1, h2, h3, h4, h5, h6, h7, h8, h9, -⟩ := h
  show (Cond.laysStatic C n d).holds args s none s [] = true
  exact Cond.laysStatic_of h1 h2 h3 h4 h5 h6 h7 h8 h9
/-- .. and what it holds: null or some reference -/
def vx_Zq (C n d : String) (A : Nat → Prop) (U : State) (H : Heap) : Prop := va_Zq C n d A U H ∧ vx_L C n d A U H
theorem vx_Zq.moved {C n d : String} {A : Nat → Prop} {u U : State} {H : Heap} (hvm : u.vm.Alike U.vm) (h : vx_Zq C n d A u H) : vx_Zq C n d A U H := ⟨va_Zq.moved hvm h.1, vx_L.moved hvm h.2⟩
theorem vx_Zq.kept {C n d : String} {A : Nat → Prop} {U : State} {H H1 : Heap} (h : vx_Zq C n d A U H) (hq : ∀ a : Nat, a < H.size → ¬ A a → H1[a]? = H[a]?) : vx_Zq C n d A U H1 := ⟨va_Zq.kept h.1 hq, vx_L.kept h.2 hq⟩
theorem vx_Zq.narrow {C n d : String} {A B : Nat → Prop} {U : State} {H : Heap} (h : vx_Zq C n d A U H) (hAB : ∀ q, B q → A q) : vx_Zq C n d B U H := ⟨va_Zq.narrow h.1 hAB, vx_L.narrow h.2 hAB⟩
theorem vx_Zqof {args : Array Value} {s : State} {C n d : String} {A : Nat → Prop} (hl : (Cond.laysStatic C n d).before args s = true) (hini : (Cond.initialized C).before args s = true) (h : (Cond.isRef (.static C n d)).before args s = true) (hA : ∀ a : Nat, a < s.heap.size → ¬ A a) : vx_Zq C n d A s s.heap := by
  refine ⟨va_Zqof hl hini h hA, ?_⟩
  obtain ⟨c, k, i, f, a, cell, h1, h2, h3, h4, h5, h6, h7, h8, h9⟩ := Cond.laysStatic_spec hl
  exact ⟨c, k, i, f, a, cell, h1, h2, h3, h4, h5, h6, h7, h8, h9, hA a (Array.getElem?_eq_some_iff.mp h5).1⟩
theorem vx_isRef {C n d : String} {v : Value} {A : Nat → Prop} {s : State} {args : Array Value} (h : va_Z C n d v A s s.heap) (hv : v.isRef = true) : (Cond.isRef (.static C n d)).before args s = true := by
  obtain ⟨cf, kf, fi, f, a, cell, h1, h2, h3, h4, h5, h6, h7, -⟩ := h
  have he : (Term.static C n d).eval args s none [] s = some v := by
    simp [Term.eval, State.fieldNamed?, h1, h2, h4, h5, h6, h7]
  simp only [Cond.before, Cond.holds, Cond.value, he]
  cases v <;> simp_all [Value.isRef]
theorem vx_isRefq {C n d : String} {A : Nat → Prop} {s : State} {args : Array Value} (h : va_Zq C n d A s s.heap) : (Cond.isRef (.static C n d)).before args s = true := by
  rcases h with h | ⟨t, h⟩
  · exact vx_isRef h rfl
  · exact vx_isRef h rfl
/-- the same frame, seen from here: as if the method were called anew in this heap -/
theorem vx_rebase {T : State} (X : Stand p l e R s m args below meth c T locs cells slots) {R' : Room} (hf : R'.frames ≤ R.frames) (hl : R'.locals ≤ R.locals) (hc : cells + R'.cells ≤ R.cells) (hs : slots + R'.slots ≤ R.slots) :
    Stand p l e R' ((T.setVm s.vm).setFrames (.invoking m args :: below)) m args below meth c T [] 0 0 := by
  have htop : (T.setVm s.vm).topJava?.isSome := X.here.top
  have hF : ((T.setVm s.vm).setFrames (.invoking m args :: below)).frames = .invoking m args :: below := State.frames_setFrames _ (State.cur_lt_of_top htop)
  obtain ⟨g₀, hg0⟩ := Option.isSome_iff_exists.mp htop
  obtain ⟨r, hr⟩ := State.topJava?_eq_some.mp hg0
  have hl9 : e.platform.stackLimits (T.setVm s.vm).me = e.platform.stackLimits s.me := X.limits
  have hb9 : (T.setVm s.vm).me.stackBytes = s.me.stackBytes := X.bytes
  refine ⟨X.admits, X.cas, X.clock, hF, ?_, X.hears, X.method, X.code, X.here, X.tail, X.warmed, ?_, ?_, ?_⟩
  · have h := X.room
    have hU : ((T.setVm s.vm).setFrames (.invoking m args :: below)).localsInUse = s.localsInUse := by
      rw [State.localsInUse_invoking hF (meth := meth) (c := c) X.method X.code, State.localsInUse_invoking X.frames X.method X.code]
    simp only [State.hasRoom, Bool.and_eq_true, decide_eq_true_eq] at h ⊢
    obtain ⟨⟨⟨⟨h1, h2, h3, h4, h5, h6⟩, h7⟩, h8⟩, h9⟩ := h
    rw [X.frames, List.length_cons] at h2 h3
    have q1 := X.heapSize
    have q2 := X.used
    simp only [hF, hU, List.length_cons, State.stackLimits_setFrames, State.stackBytes_setFrames, hl9, hb9]
    refine ⟨⟨⟨⟨by omega, by omega, by omega, by omega, by omega, h6⟩, ?_⟩, ?_⟩, X.book⟩
    · show T.heap.size + R'.cells ≤ e.platform.maxCells
      omega
    · show T.slotsUsed + R'.slots ≤ e.platform.maxSlots
      omega
  · rw [State.stackLimits_setFrames]; rfl
  · rw [State.stackBytes_setFrames]; rfl
  · refine ⟨?_, Nat.le_refl _, Nat.le_refl _, ?_, ?_, fun a c9 h9 => ⟨c9, h9, rfl, rfl, fun _ _ => rfl⟩⟩
    · obtain ⟨t, ht, -⟩ := State.frames_cons hr
      show T.setVm s.vm = { ((T.setVm s.vm).setFrames (.invoking m args :: below)).setFrames (T.setVm s.vm).frames with heap := T.heap, slotsUsed := T.slotsUsed }
      rw [State.setFrames_setFrames, State.setFrames_self ht]
      rfl
    · show T.slotsUsed = T.slotsUsed + ((T.heap.toList.drop T.heap.size).map (·.slots.size)).sum
      rw [List.drop_eq_nil_of_le (Nat.le_of_eq Array.length_toList)]
      rfl
    · show ((T.heap.toList.drop T.heap.size).map (·.slots.size)).sum ≤ 0
      rw [List.drop_eq_nil_of_le (Nat.le_of_eq Array.length_toList)]
      exact Nat.le_refl _
/-- 'throw new E()': new; dup; invokespecial; athrow -/
theorem vx_throw0 {cc : ByteArray} {pc : Nat} (hexec : p.tables.exec = Jvm.exec) (hb : c.code = cc) (hl : l.stackTraces = false) {own cls : String} {names : List String} {ik ic mc ms : Nat} {A : Nat → Prop}
    (hown : s.vm.findClass own = some m.cls) (hcls : Bundle.fit cls = true) (hnames : ∀ n ∈ names, Bundle.fit n = true)
    (hk : (Cond.classLink own ik cls).before args s = true) (hini : (Cond.initialized cls).before args s = true) (hat : ∀ w ∈ vx_at0 own ic cls names, w.before args s = true)
    (hgood : ∀ w ∈ Cond.classLink own ik cls :: Cond.initialized cls :: vx_at0 own ic cls names, vx_ot w = true)
    (hU : vx_Zq Bundle.tN "UNASSIGNED_STACK" Bundle.steD A s s.heap) (hN : vx_Zq Bundle.tN "SUPPRESSED_SENTINEL" Bundle.listD A s s.heap) (hS : va_S A s.heap H locs) (hsize : ls.size = c.maxLocals)
    (d0 : decode cc pc = .ok (.new ik, 3)) (d3 : decode cc (pc + 3) = .ok (.dup, 1)) (d4 : decode cc (pc + 4) = .ok (.invokespecial ic, 3)) (d7 : decode cc (pc + 7) = .ok (.athrow, 1))
    (hout : ∀ x ∈ c.exceptionTable.toList, covers x (pc + 7) = false)
    (hRframes : names.length + 3 < R.frames) (hRlocals : (rest.map fun v => v.category).sum + (13 * (names.length + 1) + 42) ≤ R.locals) (hRcells : cells + 1 ≤ R.cells) (hRslots : slots + 6 ≤ R.slots) (hlocks : meth.locks = false)
    (hx : ∀ t : State, s.vm.Alike t.vm → H.size ≤ t.heap.size → (∀ q : Nat, q < H.size → t.heap[q]? = H[q]?) → XC cls s t)
    (hf : ∀ z ∈ locs, free z.base) (hc : cells + 1 ≤ mc) (hs : slots + 6 ≤ ms) :
    W p l e R s m args below meth c H locs cells slots (vx_MQ below Qc XC args s mc ms free) (F0 m pc ls rest) := by
  intro T hT X
  have htr : e.platform.stackTraces = false := (show e.platform.stackTraces = l.stackTraces by rw [X.admits.platform]).trans hl
  have Y := vx_rebase X (R' := { frames := R.frames, locals := R.locals, cells := 1, slots := 6 }) (Nat.le_refl _) (Nat.le_refl _) hRcells hRslots
  obtain ⟨s', hA⟩ : ∃ z, z = (T.setVm s.vm).setFrames (.invoking m args :: below) := ⟨_, rfl⟩
  rw [← hA] at Y
  have hvm : s'.vm = s.vm := by rw [hA]; rfl
  have hhp : s'.heap = H := by rw [hA]; exact hT
  have hW0 : s.WarmedH s'.vm := by rw [hvm]; exact State.WarmedH.refl s
  have hat' : ∀ w ∈ vx_at0 own ic cls names, w.before args s' = true := fun w hw => vx_ot_at hW0 hvm.symm (hgood w (List.mem_cons_of_mem _ (List.mem_cons_of_mem _ hw))) (hat w hw)
  have hk' : (Cond.classLink own ik cls).before args s' = true := vx_ot_at hW0 hvm.symm (hgood _ List.mem_cons_self) hk
  have hini' : (Cond.initialized cls).before args s' = true := vx_ot_at hW0 hvm.symm (hgood _ (List.mem_cons_of_mem _ List.mem_cons_self)) hini
  have hU' : vx_Zq Bundle.tN "UNASSIGNED_STACK" Bundle.steD A s' s'.heap := by rw [hhp]; exact vx_Zq.moved hW0.alike (hU.kept hS.2.1)
  have hN' : vx_Zq Bundle.tN "SUPPRESSED_SENTINEL" Bundle.listD A s' s'.heap := by rw [hhp]; exact vx_Zq.moved hW0.alike (hN.kept hS.2.1)
  have h : ∀ w ∈ Bundle.ownAtoms0 own ic cls names, w.before args s' = true := vx_own hat' (vx_isRefq hU'.1) (vx_isRefq hN'.1) hU'.2.word hN'.2.word
  have hown' : s'.vm.findClass own = some m.cls := by rw [hvm]; exact hown
  have hins : (Cond.instantiable cls 6).before args s' = true := h _ (by simp [Bundle.ownAtoms0])
  obtain ⟨vm₁, cX, kX, hfX, hkX, -, -, X₁, st1⟩ := Y.newCold hexec (own := own) (C := cls) (index := ik) (n := 6) hown' hk' hins hini'
    (g := F0 m pc ls rest) rfl (by rw [hb]; exact d0) (Nat.le_refl _) (Nat.le_refl _)
  generalize hT1 : (T.setVm vm₁).pushCell { cls := cX, slots := kX.instanceTypes.map defaultValue, vm := .none } = T1 at X₁ st1
  have hcat : (Value.ref T.heap.size).category = 1 := rfl
  have hcellA : T1.heap[T.heap.size]? = some (freshCell cX kX) := by rw [← hT1]; exact State.heap_pushCell_size _ _
  have d3' : decode c.code (pc + 3) = .ok (.dup, 1) := by rw [hb]; exact d3
  obtain ⟨U, hsteps, hrun, hend, hW, hsame, ce, hce, hO⟩ := X₁.ctorThrow0 hexec htr (own := own) (cls := cls) (names := names) (ic := ic) hown' hcls hnames h (fun x hx => nomatch hx) hfX hkX hcellA (by rw [hhp, hT]; exact Nat.le_refl _)
    (g := { method := m, pc := pc + 4, locals := ls, stack := .ref T.heap.size :: .ref T.heap.size :: rest, locked := none }) rfl hsize rfl rfl (rest := rest) rfl
    (by rw [hb]; exact d4) (by rw [hb]; exact d7) hout hRframes (by simp only [List.map_cons, List.sum_cons, hcat]; omega) hlocks
  obtain ⟨f1, f2⟩ := vx_frame hsame
  rw [hhp] at f1 f2
  have hWs : s.WarmedH U.vm := State.WarmedH.trans hW0 hW
  have hcl : s.vm.findClass cls = some ce.cls := by
    have h9 := hO.cls
    rw [hvm] at h9
    exact h9
  have hall : s.sameButNew ({ U with vm := s.vm } : State) locs mc ms := by
    subst hA
    obtain ⟨e1, e2⟩ := hsame
    rw [State.setFrames_setFrames] at e1
    have h2 : (T.setVm s.vm).sameButNew ({ U with vm := s.vm } : State) [] (0 + 1) (0 + 6) := ⟨e1, e2⟩
    have h3 := X.same.trans h2
    rw [List.append_nil] at h3
    exact h3.mono hc hs
  refine ⟨U, ?_, .threw T.heap.size, hrun, hend, Or.inr ⟨T.heap.size, rfl, cls, ce, locs, hx U hWs.alike f1 (fun q hq => f2 q hq (fun z hz => nomatch hz)), hce, hO.vm, hcl, hWs, hall, hf⟩⟩
  refine st1 _ ?_
  show Steps p.tables e below (T1.setTop { method := m, pc := pc + 3, locals := ls, stack := .ref T.heap.size :: rest, locked := none }) _
  jvm_step X₁.here [X₁.here.top, hexec, d3', Value.category]
  exact hsteps
/-- 'throw new E("text")': new; dup; ldc; invokespecial; athrow -/
theorem vx_throwS {cc : ByteArray} {pc : Nat} (hexec : p.tables.exec = Jvm.exec) (hb : c.code = cc) (hl : l.stackTraces = false) {own cls text : String} {names : List String} {ik is ic mc ms sa : Nat} {A : Nat → Prop}
    (hown : s.vm.findClass own = some m.cls) (hcls : Bundle.fit cls = true) (hnames : ∀ n ∈ names, Bundle.fit n = true)
    (hk : (Cond.classLink own ik cls).before args s = true) (hini : (Cond.initialized cls).before args s = true) (hstr : vk_R own is text sa s) (hat : ∀ w ∈ vx_atS own ic cls names, w.before args s = true)
    (hgood : ∀ w ∈ Cond.classLink own ik cls :: Cond.initialized cls :: vx_atS own ic cls names, vx_ot w = true)
    (hU : vx_Zq Bundle.tN "UNASSIGNED_STACK" Bundle.steD A s s.heap) (hN : vx_Zq Bundle.tN "SUPPRESSED_SENTINEL" Bundle.listD A s s.heap) (hS : va_S A s.heap H locs) (hsize : ls.size = c.maxLocals)
    (d0 : decode cc pc = .ok (.new ik, 3)) (d3 : decode cc (pc + 3) = .ok (.dup, 1)) (d4 : decode cc (pc + 4) = .ok (.ldc is, 2)) (d6 : decode cc (pc + 6) = .ok (.invokespecial ic, 3)) (d9 : decode cc (pc + 9) = .ok (.athrow, 1))
    (hout : ∀ x ∈ c.exceptionTable.toList, covers x (pc + 9) = false)
    (hRframes : names.length + 3 < R.frames) (hRlocals : (rest.map fun v => v.category).sum + (13 * (names.length + 1) + 43) ≤ R.locals) (hRcells : cells + 1 ≤ R.cells) (hRslots : slots + 6 ≤ R.slots) (hlocks : meth.locks = false)
    (hx : ∀ t : State, s.vm.Alike t.vm → H.size ≤ t.heap.size → (∀ q : Nat, q < H.size → t.heap[q]? = H[q]?) → XC cls s t)
    (hf : ∀ z ∈ locs, free z.base) (hc : cells + 1 ≤ mc) (hs : slots + 6 ≤ ms) :
    W p l e R s m args below meth c H locs cells slots (vx_MQ below Qc XC args s mc ms free) (F0 m pc ls rest) := by
  intro T hT X
  have htr : e.platform.stackTraces = false := (show e.platform.stackTraces = l.stackTraces by rw [X.admits.platform]).trans hl
  have Y := vx_rebase X (R' := { frames := R.frames, locals := R.locals, cells := 1, slots := 6 }) (Nat.le_refl _) (Nat.le_refl _) hRcells hRslots
  obtain ⟨s', hA⟩ : ∃ z, z = (T.setVm s.vm).setFrames (.invoking m args :: below) := ⟨_, rfl⟩
  rw [← hA] at Y
  have hvm : s'.vm = s.vm := by rw [hA]; rfl
  have hhp : s'.heap = H := by rw [hA]; exact hT
  have hW0 : s.WarmedH s'.vm := by rw [hvm]; exact State.WarmedH.refl s
  have hat' : ∀ w ∈ vx_atS own ic cls names, w.before args s' = true := fun w hw => vx_ot_at hW0 hvm.symm (hgood w (List.mem_cons_of_mem _ (List.mem_cons_of_mem _ hw))) (hat w hw)
  have hk' : (Cond.classLink own ik cls).before args s' = true := vx_ot_at hW0 hvm.symm (hgood _ List.mem_cons_self) hk
  have hini' : (Cond.initialized cls).before args s' = true := vx_ot_at hW0 hvm.symm (hgood _ (List.mem_cons_of_mem _ List.mem_cons_self)) hini
  have hU' : vx_Zq Bundle.tN "UNASSIGNED_STACK" Bundle.steD A s' s'.heap := by rw [hhp]; exact vx_Zq.moved hW0.alike (hU.kept hS.2.1)
  have hN' : vx_Zq Bundle.tN "SUPPRESSED_SENTINEL" Bundle.listD A s' s'.heap := by rw [hhp]; exact vx_Zq.moved hW0.alike (hN.kept hS.2.1)
  have h : ∀ w ∈ Bundle.ownAtoms own ic cls names, w.before args s' = true := vx_own hat' (vx_isRefq hU'.1) (vx_isRefq hN'.1) hU'.2.word hN'.2.word
  have hown' : s'.vm.findClass own = some m.cls := by rw [hvm]; exact hown
  have hins : (Cond.instantiable cls 6).before args s' = true := h _ (by simp [Bundle.ownAtoms])
  obtain ⟨vm₁, cX, kX, hfX, hkX, -, -, X₁, st1⟩ := Y.newCold hexec (own := own) (C := cls) (index := ik) (n := 6) hown' hk' hins hini'
    (g := F0 m pc ls rest) rfl (by rw [hb]; exact d0) (Nat.le_refl _) (Nat.le_refl _)
  generalize hT1 : (T.setVm vm₁).pushCell { cls := cX, slots := kX.instanceTypes.map defaultValue, vm := .none } = T1 at X₁ st1
  have hcat : (Value.ref T.heap.size).category = 1 := rfl
  have hcellA : T1.heap[T.heap.size]? = some (freshCell cX kX) := by rw [← hT1]; exact State.heap_pushCell_size _ _
  have d3' : decode c.code (pc + 3) = .ok (.dup, 1) := by rw [hb]; exact d3
  have d4' : decode c.code (pc + 4) = .ok (.ldc is, 2) := by rw [hb]; exact d4
  have hstr' : vk_R own is text sa s' := vk_R.warm hW0 hstr
  obtain ⟨U, hsteps, hrun, hend, hW, hsame, ce, hce, hO⟩ := X₁.ctorThrowS hexec htr (own := own) (cls := cls) (names := names) (ic := ic) hown' hcls hnames h (fun x hx => nomatch hx) hfX hkX hcellA (by rw [hhp, hT]; exact Nat.le_refl _) (msg := .ref sa) rfl
    (g := { method := m, pc := pc + 6, locals := ls, stack := .ref sa :: .ref T.heap.size :: .ref T.heap.size :: rest, locked := none }) rfl hsize rfl rfl (rest := rest) rfl
    (by rw [hb]; exact d6) (by rw [hb]; exact d9) hout hRframes (by simp only [List.map_cons, List.sum_cons, hcat]; omega) hlocks
  obtain ⟨f1, f2⟩ := vx_frame hsame
  rw [hhp] at f1 f2
  have hWs : s.WarmedH U.vm := State.WarmedH.trans hW0 hW
  have hcl : s.vm.findClass cls = some ce.cls := by
    have h9 := hO.cls
    rw [hvm] at h9
    exact h9
  have hall : s.sameButNew ({ U with vm := s.vm } : State) locs mc ms := by
    subst hA
    obtain ⟨e1, e2⟩ := hsame
    rw [State.setFrames_setFrames] at e1
    have h2 : (T.setVm s.vm).sameButNew ({ U with vm := s.vm } : State) [] (0 + 1) (0 + 6) := ⟨e1, e2⟩
    have h3 := X.same.trans h2
    rw [List.append_nil] at h3
    exact h3.mono hc hs
  refine ⟨U, ?_, .threw T.heap.size, hrun, hend, Or.inr ⟨T.heap.size, rfl, cls, ce, locs, hx U hWs.alike f1 (fun q hq => f2 q hq (fun z hz => nomatch hz)), hce, hO.vm, hcl, hWs, hall, hf⟩⟩
  refine st1 _ ?_
  show Steps p.tables e below (T1.setTop { method := m, pc := pc + 3, locals := ls, stack := .ref T.heap.size :: rest, locked := none }) _
  jvm_step X₁.here [X₁.here.top, hexec, d3', Value.category]
  exact X₁.ldcString hexec (own := own) (text := text) (index := is) (a := sa) hown' hstr'.1 hstr'.2
    (g := { method := m, pc := pc + 4, locals := ls, stack := .ref T.heap.size :: .ref T.heap.size :: rest, locked := none }) rfl d4' _ hsteps
/-- 'throw new E("text")', the text by a wide index -/
theorem vx_throwSW {cc : ByteArray} {pc : Nat} (hexec : p.tables.exec = Jvm.exec) (hb : c.code = cc) (hl : l.stackTraces = false) {own cls text : String} {names : List String} {ik is ic mc ms sa : Nat} {A : Nat → Prop}
    (hown : s.vm.findClass own = some m.cls) (hcls : Bundle.fit cls = true) (hnames : ∀ n ∈ names, Bundle.fit n = true)
    (hk : (Cond.classLink own ik cls).before args s = true) (hini : (Cond.initialized cls).before args s = true) (hstr : vk_R own is text sa s) (hat : ∀ w ∈ vx_atS own ic cls names, w.before args s = true)
    (hgood : ∀ w ∈ Cond.classLink own ik cls :: Cond.initialized cls :: vx_atS own ic cls names, vx_ot w = true)
    (hU : vx_Zq Bundle.tN "UNASSIGNED_STACK" Bundle.steD A s s.heap) (hN : vx_Zq Bundle.tN "SUPPRESSED_SENTINEL" Bundle.listD A s s.heap) (hS : va_S A s.heap H locs) (hsize : ls.size = c.maxLocals)
    (d0 : decode cc pc = .ok (.new ik, 3)) (d3 : decode cc (pc + 3) = .ok (.dup, 1)) (d4 : decode cc (pc + 4) = .ok (.ldc_w is, 3)) (d7 : decode cc (pc + 7) = .ok (.invokespecial ic, 3)) (d10 : decode cc (pc + 10) = .ok (.athrow, 1))
    (hout : ∀ x ∈ c.exceptionTable.toList, covers x (pc + 10) = false)
    (hRframes : names.length + 3 < R.frames) (hRlocals : (rest.map fun v => v.category).sum + (13 * (names.length + 1) + 43) ≤ R.locals) (hRcells : cells + 1 ≤ R.cells) (hRslots : slots + 6 ≤ R.slots) (hlocks : meth.locks = false)
    (hx : ∀ t : State, s.vm.Alike t.vm → H.size ≤ t.heap.size → (∀ q : Nat, q < H.size → t.heap[q]? = H[q]?) → XC cls s t)
    (hf : ∀ z ∈ locs, free z.base) (hc : cells + 1 ≤ mc) (hs : slots + 6 ≤ ms) :
    W p l e R s m args below meth c H locs cells slots (vx_MQ below Qc XC args s mc ms free) (F0 m pc ls rest) := by
  intro T hT X
  have htr : e.platform.stackTraces = false := (show e.platform.stackTraces = l.stackTraces by rw [X.admits.platform]).trans hl
  have Y := vx_rebase X (R' := { frames := R.frames, locals := R.locals, cells := 1, slots := 6 }) (Nat.le_refl _) (Nat.le_refl _) hRcells hRslots
  obtain ⟨s', hA⟩ : ∃ z, z = (T.setVm s.vm).setFrames (.invoking m args :: below) := ⟨_, rfl⟩
  rw [← hA] at Y
  have hvm : s'.vm = s.vm := by rw [hA]; rfl
  have hhp : s'.heap = H := by rw [hA]; exact hT
  have hW0 : s.WarmedH s'.vm := by rw [hvm]; exact State.WarmedH.refl s
  have hat' : ∀ w ∈ vx_atS own ic cls names, w.before args s' = true := fun w hw => vx_ot_at hW0 hvm.symm (hgood w (List.mem_cons_of_mem _ (List.mem_cons_of_mem _ hw))) (hat w hw)
  have hk' : (Cond.classLink own ik cls).before args s' = true := vx_ot_at hW0 hvm.symm (hgood _ List.mem_cons_self) hk
  have hini' : (Cond.initialized cls).before args s' = true := vx_ot_at hW0 hvm.symm (hgood _ (List.mem_cons_of_mem _ List.mem_cons_self)) hini
  have hU' : vx_Zq Bundle.tN "UNASSIGNED_STACK" Bundle.steD A s' s'.heap := by rw [hhp]; exact vx_Zq.moved hW0.alike (hU.kept hS.2.1)
  have hN' : vx_Zq Bundle.tN "SUPPRESSED_SENTINEL" Bundle.listD A s' s'.heap := by rw [hhp]; exact vx_Zq.moved hW0.alike (hN.kept hS.2.1)
  have h : ∀ w ∈ Bundle.ownAtoms own ic cls names, w.before args s' = true := vx_own hat' (vx_isRefq hU'.1) (vx_isRefq hN'.1) hU'.2.word hN'.2.word
  have hown' : s'.vm.findClass own = some m.cls := by rw [hvm]; exact hown
  have hins : (Cond.instantiable cls 6).before args s' = true := h _ (by simp [Bundle.ownAtoms])
  obtain ⟨vm₁, cX, kX, hfX, hkX, -, -, X₁, st1⟩ := Y.newCold hexec (own := own) (C := cls) (index := ik) (n := 6) hown' hk' hins hini'
    (g := F0 m pc ls rest) rfl (by rw [hb]; exact d0) (Nat.le_refl _) (Nat.le_refl _)
  generalize hT1 : (T.setVm vm₁).pushCell { cls := cX, slots := kX.instanceTypes.map defaultValue, vm := .none } = T1 at X₁ st1
  have hcat : (Value.ref T.heap.size).category = 1 := rfl
  have hcellA : T1.heap[T.heap.size]? = some (freshCell cX kX) := by rw [← hT1]; exact State.heap_pushCell_size _ _
  have d3' : decode c.code (pc + 3) = .ok (.dup, 1) := by rw [hb]; exact d3
  have d4' : decode c.code (pc + 4) = .ok (.ldc_w is, 3) := by rw [hb]; exact d4
  have hstr' : vk_R own is text sa s' := vk_R.warm hW0 hstr
  obtain ⟨U, hsteps, hrun, hend, hW, hsame, ce, hce, hO⟩ := X₁.ctorThrowS hexec htr (own := own) (cls := cls) (names := names) (ic := ic) hown' hcls hnames h (fun x hx => nomatch hx) hfX hkX hcellA (by rw [hhp, hT]; exact Nat.le_refl _) (msg := .ref sa) rfl
    (g := { method := m, pc := pc + 7, locals := ls, stack := .ref sa :: .ref T.heap.size :: .ref T.heap.size :: rest, locked := none }) rfl hsize rfl rfl (rest := rest) rfl
    (by rw [hb]; exact d7) (by rw [hb]; exact d10) hout hRframes (by simp only [List.map_cons, List.sum_cons, hcat]; omega) hlocks
  obtain ⟨f1, f2⟩ := vx_frame hsame
  rw [hhp] at f1 f2
  have hWs : s.WarmedH U.vm := State.WarmedH.trans hW0 hW
  have hcl : s.vm.findClass cls = some ce.cls := by
    have h9 := hO.cls
    rw [hvm] at h9
    exact h9
  have hall : s.sameButNew ({ U with vm := s.vm } : State) locs mc ms := by
    subst hA
    obtain ⟨e1, e2⟩ := hsame
    rw [State.setFrames_setFrames] at e1
    have h2 : (T.setVm s.vm).sameButNew ({ U with vm := s.vm } : State) [] (0 + 1) (0 + 6) := ⟨e1, e2⟩
    have h3 := X.same.trans h2
    rw [List.append_nil] at h3
    exact h3.mono hc hs
  refine ⟨U, ?_, .threw T.heap.size, hrun, hend, Or.inr ⟨T.heap.size, rfl, cls, ce, locs, hx U hWs.alike f1 (fun q hq => f2 q hq (fun z hz => nomatch hz)), hce, hO.vm, hcl, hWs, hall, hf⟩⟩
  refine st1 _ ?_
  show Steps p.tables e below (T1.setTop { method := m, pc := pc + 3, locals := ls, stack := .ref T.heap.size :: rest, locked := none }) _
  jvm_step X₁.here [X₁.here.top, hexec, d3', Value.category]
  exact X₁.ldcStringW hexec (own := own) (text := text) (index := is) (a := sa) hown' hstr'.1 hstr'.2
    (g := { method := m, pc := pc + 4, locals := ls, stack := .ref T.heap.size :: .ref T.heap.size :: rest, locked := none }) rfl d4' _ hsteps
end Ends
section Bodies
variable {l : Launch}
theorem vx_ofW {y : MethodName} {ws ws' : List Cond} {rm : Room} {Pc : Array Value → State → Prop} {Qc : Array Value → State → Outcome → State → Prop} {XC : String → State → State → Prop} {mc ms : Nat} {free : Addr → Prop} {cc : ByteArray} {maxL : Nat} {ret : Option FieldType}
    (hy : plainName y.cls = true) (hw : ws = Cond.code y cc maxL ret :: ws')
    (body : ∀ p e s m args below meth c s₁, BodyLoose p l y (headSpec ws rm) cc maxL ret e s m args below meth c s₁ → c.maxLocals = maxL → (∀ x ∈ c.exceptionTable.toList, False) → Pc args s →
      W p l e (headSpec ws rm).room s m args below meth c s.heap [] 0 0 (vx_MQ below Qc XC args s mc ms free) (entryFrame m args maxL)) : vx_Met l y ws rm Pc Qc XC mc ms free := by
  refine MetFree.of_bodyS (code := cc) (maxLocals := maxL) (ret := ret) hy ?_ ?_
  · intro args s m h hn
    obtain ⟨meth, c, h1, h2, h3, h4, h5, h6, -, -⟩ := Cond.code_spec hn (atoms_spec (ws := ws) h _ (by rw [hw]; exact List.mem_cons_self))
    exact ⟨meth, c, h1, h2, h3, h4, h5, h6⟩
  · intro p e s m args below meth c s₁ B hml hP _
    have hh0 : s₁.heap = s.heap := by rw [B.state]; rfl
    have ht : ∀ x ∈ c.exceptionTable.toList, False := by
      obtain ⟨meth9, c9, h1, h2, -, -, -, -, h7, -⟩ := Cond.code_spec B.named (atoms_spec (ws := ws) B.pre _ (by rw [hw]; exact List.mem_cons_self))
      cases Option.some.inj (h1.symm.trans B.method)
      cases Option.some.inj (h2.symm.trans (Stand.of_body B).code)
      intro x hx
      rw [Array.isEmpty_iff.mp h7] at hx
      cases hx
    obtain ⟨t, a1, o, b1, b2, b3⟩ := body p e s m args below meth c s₁ B hml ht hP s₁ hh0 (Stand.of_body B)
    exact ⟨t, o, a1, b1, b2, b3⟩
/-- the table of a body with handlers -/
theorem vx_table {p : Program} {x y : MethodName} {S : Spec} {cc bytes : ByteArray} {maxL maxL' : Nat} {ret ret' : Option FieldType} {e : Env} {s s₁ : State} {m : MethodId} {args : Array Value} {below : List Frame} {meth : Method} {c : Code} {hh : List (Nat × Nat × Nat × Nat)}
    (B : BodyLoose p l y S cc maxL ret e s m args below meth c s₁) (h : (Cond.codeWith y bytes maxL' ret' hh).before args s = true) : c.exceptionTable.toList = tableOf hh := by
  obtain ⟨m9, meth9, c9, hn9, h1, h2, -, -, h6, -⟩ := Cond.codeWith_spec h
  cases Option.some.inj (hn9.symm.trans B.named)
  cases Option.some.inj (h1.symm.trans B.method)
  cases Option.some.inj (h2.symm.trans (Stand.of_body B).code)
  rw [← h6, table_eq]
end Bodies
end VXA
/-! ===== END ===== -/
/-! ===== BEGIN a static call of a method with an exception table ===== -/
section VXS
variable {p : Program} {l : Launch} {e : Env} {R : Room} {s : State} {m : MethodId} {args : Array Value} {below : List Frame} {meth : Method} {c : Code} {T : State} {H : Heap} {locs : List Loc} {cells slots : Nat}
abbrev vx_CSW (R : Room) (s : State) (args : Array Value) (own : String) (index : Nat) (y : MethodName) (bytes : ByteArray) (maxL : Nat) (ret : Option FieldType) (hh : List (Nat × Nat × Nat × Nat)) (ws : List Cond) (rm : Room) (mc ms n : Nat) : Prop :=
  (rm.cells = mc ∧ rm.slots = ms ∧ rm.frames + 1 ≤ R.frames ∧ 8 + (maxL + 11) + rm.locals ≤ R.locals ∧ (∀ w ∈ ws, ∀ (a' : Array Value) (U : State), s.WarmedH U.vm → w.before a' U = true) ∧ Cond.codeWith y bytes maxL ret hh ∈ ws) ∧
  (Cond.codeWith y bytes maxL ret hh).before args s = true ∧ (Cond.initialized y.cls).before args s = true ∧ (y.cls ≠ "java/lang/invoke/MethodHandle" ∧ y.cls ≠ "java/lang/invoke/VarHandle") ∧
  (∀ sig, parseMethodDescriptor y.desc = some sig → n = sig.parameters.length) ∧ (Cond.methodLink own index y).before args s = true ∧ (Cond.static y).before args s = true
theorem vx_cwSW {own : String} {index maxL mc ms : Nat} {y : MethodName} {bytes : ByteArray} {ret : Option FieldType} {hh : List (Nat × Nat × Nat × Nat)} {Ts ws ws' : List Cond} {rm : Room} (n : Nat) (ht : ∀ w ∈ Ts, w.before args s = true) (hT : GoodIn Ts (va_wsS own index y ws)) (hw : ws = Cond.codeWith y bytes maxL ret hh :: ws') (hrc : rm.cells = mc) (hrs : rm.slots = ms)
    (hd : y.cls ≠ "java/lang/invoke/MethodHandle" ∧ y.cls ≠ "java/lang/invoke/VarHandle" ∧ (parseMethodDescriptor y.desc).map (fun d => d.parameters.length) = some n) (hR : rm.frames + 1 ≤ R.frames ∧ 8 + (maxL + 11) + rm.locals ≤ R.locals) :
    vx_CSW R s args own index y bytes maxL ret hh ws rm mc ms n := by
  have ok : ∀ w ∈ va_wsS own index y ws, w.before args s = true := fun w h => ht w (hT w h).1
  have hG : GoodIn Ts ws := fun w h => hT w (by unfold va_wsS; exact List.mem_append_right _ h)
  have hc : Cond.codeWith y bytes maxL ret hh ∈ ws := by rw [hw]; exact List.mem_cons_self
  refine ⟨⟨hrc, hrs, hR.1, hR.2, pay_in ht hG, hc⟩, ht _ (hG _ hc).1, ok _ (by simp [va_wsS]), ⟨hd.1, hd.2.1⟩, fun sig h => ?_, ok _ (by simp [va_wsS]), ok _ (by simp [va_wsS])⟩
  have h2 := hd.2.2
  rw [h] at h2
  exact (Option.some.inj h2).symm
theorem vx_callSW (X : Stand p l e R s m args below meth c T locs cells slots) (hexec : p.tables.exec = Jvm.exec) {own : String} {index : Nat} {y : MethodName} {bytes : ByteArray} {maxL : Nat} {ret : Option FieldType} {hh : List (Nat × Nat × Nat × Nat)}
    (hown : s.vm.findClass own = some m.cls) (hlink : (Cond.methodLink own index y).before args s = true) (hstat : (Cond.static y).before args s = true) (hinit : (Cond.initialized y.cls).before args s = true)
    (hcode : (Cond.codeWith y bytes maxL ret hh).before args s = true) (hy : y.cls ≠ "java/lang/invoke/MethodHandle" ∧ y.cls ≠ "java/lang/invoke/VarHandle")
    {W9 : Nat} {Pre : Pt → Array Value → Prop} {Post : Pt → Array Value → Option Value → Pt → Prop} (hK : Back l R p e below s args y 3 W9 Pre Post)
    {g : JFrame} (hg : g.method = m) (hsize : g.locals.size = c.maxLocals) {argsL rest : List Value} (hlen : ∀ sig, parseMethodDescriptor y.desc = some sig → argsL.length = sig.parameters.length)
    (hstack : g.stack = argsL.reverse ++ rest) (hW : 2 * g.monitorRoom + (rest.map fun v => v.category).sum ≤ W9) (hdg : decode c.code g.pc = .ok (.invokestatic index, 3))
    (hpre : ∀ vm₁, s.WarmedH vm₁ → Pre ⟨T.setVm vm₁, locs, cells, slots⟩ argsL.toArray) :
    ∃ (v : Option Value) (vm₁ : Vm) (B : Pt), s.WarmedH vm₁ ∧ Stand p l e R s m args below meth c B.U B.locs B.cells B.slots ∧ Post ⟨T.setVm vm₁, locs, cells, slots⟩ argsL.toArray v B ∧
      ∀ target, Steps p.tables e below (B.U.setTop { g with pc := g.pc + 3, stack := v.toList ++ rest }) target → Steps p.tables e below (T.setTop g) target := by
  obtain ⟨mk, methM, cM, hnamed, hmethM, -, -, -, -, -, -, hsigM⟩ := Cond.codeWith_spec hcode
  have hstatic : methM.isStatic = true := Cond.static_spec hnamed hmethM hstat
  obtain ⟨kP, hkP, -⟩ := className_of_methodNamed hnamed
  have hinitP : kP.init = .initialized := Cond.initialized_spec (findClass_of_methodNamed hnamed) hkP hinit
  obtain ⟨vm₁, X₁, hstep₁⟩ := X.invokestatic hexec hown hlink hnamed hmethM hstatic hkP hinitP hy (g := g) hg (argsL := argsL) (rest := rest) (hlen _ hsigM) hstack hdg
  obtain ⟨v, B, X', hpost, hsteps⟩ := hK m meth c ⟨T.setVm vm₁, locs, cells, slots⟩ { g with stack := rest } (.invokestatic index) mk argsL.toArray X₁ hg hsize hdg hW (X₁.named hnamed) (hpre vm₁ X₁.warmed)
  exact ⟨v, vm₁, B, X₁.warmed, X', hpost, fun target h => hstep₁ _ fun acts => by rw [doInvoke_state]; exact hsteps.trans h⟩
theorem vx_runSW {y : MethodName} {bytes cc : ByteArray} {maxL nL mc ms n index : Nat} {ret : Option FieldType} {hh : List (Nat × Nat × Nat × Nat)} {ws : List Cond} {rm : Room} {Pc : Array Value → State → Prop} {Qc : Array Value → State → Outcome → State → Prop} {free : Addr → Prop} {Ts : List Cond} {own : String} {As rest : List Value} {g : JFrame}
    (S : CallFix p m c cc nL s args Ts own) (hM : Met l y ws rm Pc Qc mc ms free) (cw : vx_CSW R s args own index y bytes maxL ret hh ws rm mc ms n) (hp : PreS s H Pc As)
    (hg : g.method = m) (hn : As.length = n) (hsize : g.locals.size = nL) (hstack : g.stack = As.reverse ++ rest) (hW : 2 * g.monitorRoom + (rest.map fun v => v.category).sum ≤ 8) (hdg : decode cc g.pc = .ok (.invokestatic index, 3)) (hf : cells + mc ≤ R.cells ∧ slots + ms ≤ R.slots) :
    va_Run p l e R s m args below meth c H locs cells slots mc ms g rest (Qc As.toArray) (free) := by
  obtain ⟨⟨hrc, hrs, hfr, hlo, hws, hcw⟩, hcode, hini, hy, hlen, hl, hstt⟩ := cw
  have hK : Back l R p e below s args y 3 8 (PreOf R mc ms Pc) (PostOf Qc mc ms free) := va_backW (hh := hh) (bytes := bytes) (maxL := maxL) (ret := ret) hM hp.1 hrc hrs hfr hlo hws hcw (fun a' U hW => word_at hW (Or.inl (by first | rfl | simp [Cond.onTables, Cond.keeps, Cond.steady])) hini)
  obtain ⟨hx, hb, hml, ho, -⟩ := S
  intro T hT X
  obtain ⟨v, vm₁, ⟨U', l2, c2, s2⟩, hW₁, X', ⟨g', mk, t, L, e1, e2, hq, h1, hL, h2, h3⟩, st⟩ := vx_callSW X hx (hh := hh) (bytes := bytes) (maxL := maxL) (ret := ret) ho hl hstt hini hcode hy hK hg (hsize.trans hml.symm) (argsL := As) (rest := rest) (fun sig h => hn.trans (hlen sig h)) hstack hW (by rw [hb]; exact hdg)
    (fun vm₁ hW₁ => ⟨hf.1, hf.2, hp.2 (T.setVm vm₁) hT hW₁⟩)
  dsimp only [Pt.U, Pt.locs, Pt.cells, Pt.slots] at X' e1 e2 h1 h2 h3 st
  subst h1; subst h2; subst h3
  exact ⟨v, (T.setVm vm₁).calling g' mk As.toArray, t, U', L, hT, X', hL, e1, e2, hq, st⟩
/-- not caught here, past rows that name other classes: it goes on to the caller -/
theorem vx_outP {p : Program} {l : Launch} {e : Env} {R : Room} {s : State} {m : MethodId} {args : Array Value} {below : List Frame} {meth : Method} {c : Code} {H : Heap} {locs : List Loc} {cells slots : Nat} {free : Addr → Prop} {ls : Array Slot} {rest : List Value} {Qc : Array Value → State → Outcome → State → Prop} {XC : String → State → State → Prop}
    {pc : Nat} {own E : String} {ce : Cell} {q : Addr} {mc ms : Nat} (hown : s.vm.findClass own = some m.cls) (hlocks : meth.locks = false)
    (hpass : ∀ z ∈ c.exceptionTable.toList, covers z pc = false ∨ (z.catchType ≠ 0 ∧ ∃ nm : String, (Cond.classLink own z.catchType nm).before args s = true ∧ va_Nc E nm s)) (hcell : H[q]? = some ce) (hv : ce.vm = .none) (hcl : s.vm.findClass E = some ce.cls)
    (hx : ∀ t : State, t.heap = H → s.vm.Alike t.vm → XC E s t) (hf : ∀ z ∈ locs, free z.base) (hc : cells ≤ mc) (hs : slots ≤ ms) :
    vx_W p l e R s m args below meth c H locs cells slots (vx_MQ below Qc XC args s mc ms free) (F0 m pc ls rest) q := by
  intro T hT X
  have hpl : e.platform.magicAccessors = ({} : Platform).magicAccessors := by rw [X.admits.platform]
  obtain ⟨vm', hW', X', st⟩ := X.outThrough hlocks q (g := F0 m pc ls rest) rfl rfl rfl (cell := ce) (by rw [hT]; exact hcell) (by rw [hv]; rfl)
    (by obtain ⟨k9, h9, -⟩ := Vm.findClass_spec hcl; exact ⟨k9, h9⟩) (fun z hz => by
      rcases hpass z hz with h | ⟨hz0, nm, hl1, hn1⟩
      · exact Or.inl h
      · obtain ⟨c6, hc6, hcl6⟩ := Cond.classLink_spec hown hl1 e.platform hpl
        obtain ⟨a8, b8, h1, h2, h3⟩ := hn1
        cases Option.some.inj (h1.symm.trans hcl)
        cases Option.some.inj (h2.symm.trans hc6)
        exact Or.inr ⟨hz0, _, hcl6, h3⟩)
  obtain ⟨g₀, hfr⟩ := X'.frames_eq
  have hcell9 : ((T.setVm vm').setFrames (.throwing q :: below)).heap[q]? = some ce := by
    show T.heap[q]? = some ce
    rw [hT]; exact hcell
  have hend : Ended ((T.setVm vm').setFrames (.throwing q :: below)) below (.threw q) := State.frames_setFrames _ (State.cur_lt_of_frames hfr)
  refine ⟨(T.setVm vm').setFrames (.throwing q :: below), ?_, .threw q, X'.here.running, hend, Or.inr ⟨q, rfl, E, ce, locs, hx _ hT (X'.ends _).1.alike, hcell9, hv, hcl, (X'.ends _).1, (X'.ends _).2.mono hc hs, hf⟩⟩
  rw [X.pushThrowing_eq]
  exact st
/-- a thing of a world lies in the heap -/
theorem vx_lt {D : va_G} {cl : List vw_C} {ws : va_W} {H1 : Heap} (h : va_P D cl ws H1) {k : Nat} {q : Nat × va_E} (hk : ws[k]? = some q) : q.1 < H1.size := (h k q hk).lt
end VXS
/-! ===== END ===== -/
/-! ===== BEGIN methods with a table of their own: called by a name, returning or throwing ===== -/
section VXH
/-! vx_backW, vx_callVX, vx_callSX, vx_callVW, vx_runVW, vx_runVX, vx_runSX, vx_ofWH follow the same proofs as their sisters above (Free/Laws.lean, Shelf42/LK1.lean); vx_outP calls Shelf42/NT130.lean (outThrough). -/
section
variable {l : Launch} {R : Room} {p : Program} {e : Env} {below : List Frame} {s : State} {sargs : Array Value} {y : MethodName} {len W9 : Nat}
theorem vx_backW {ws : List Cond} {rm : Room} {Pc : Array Value → State → Prop} {Qc : Array Value → State → Outcome → State → Prop} {XC : String → State → State → Prop} {mc ms : Nat} {free : Addr → Prop} {bytes : ByteArray} {maxL : Nat} {ret : Option FieldType} {hh : List (Nat × Nat × Nat × Nat)}
    (hM : vx_Met l y ws rm Pc Qc XC mc ms free) (hblind : FrameBlind Pc) (hrc : rm.cells = mc) (hrs : rm.slots = ms)
    (hframes : rm.frames + 1 ≤ R.frames) (hlocals : W9 + (maxL + 11) + rm.locals ≤ R.locals)
    (hws : ∀ w ∈ ws, ∀ a' U, s.WarmedH U.vm → w.before a' U = true) (hcode : Cond.codeWith y bytes maxL ret hh ∈ ws) (hinit : ∀ a' U, s.WarmedH U.vm → (Cond.initialized y.cls).before a' U = true) :
    vx_Back l R p e below s sargs y len W9 (PreOf R mc ms Pc) (PostOf Qc mc ms free) (vx_Post XC mc ms free) := by
  intro m meth c A g ig mk a X hg hsize hdg hW hn hp
  have h1 : (headSpec ws rm).pre.before a A.U = true := atoms_intro fun w hw => hws w hw _ _ X.warmed
  have h2 : (Cond.codeWith y bytes maxL ret hh).before a A.U = true := hws _ hcode _ _ X.warmed
  have h3 : (Cond.initialized y.cls).before a A.U = true := hinit _ _ X.warmed
  have h4 : A.cells + (headSpec ws rm).room.cells ≤ R.cells := by rw [show (headSpec ws rm).room.cells = mc from hrc]; exact hp.1
  have h5 : A.slots + (headSpec ws rm).room.slots ≤ R.slots := by rw [show (headSpec ws rm).room.slots = ms from hrs]; exact hp.2.1
  have hPc : Pc a (A.U.calling g mk a) := hblind _ _ _ _ hp.2.2
  obtain ⟨U, Ls, c0, s0⟩ := A
  dsimp only [Pt.U, Pt.locs, Pt.cells, Pt.slots] at h1 h2 h3 h4 h5 X hn hPc ⊢
  obtain ⟨m9, methY, cY, hn9, hmY, hcY, -, hlY, -⟩ := Cond.codeWith_spec h2
  cases Option.some.inj (hn9.symm.trans hn)
  obtain ⟨kY, hkY, -⟩ := className_of_methodNamed hn
  have hinitY : kY.init = .initialized := Cond.initialized_spec (findClass_of_methodNamed hn) hkY h3
  have h : At U g.method c below := by rw [hg]; exact X.here
  have hlocals9 : W9 + (maxL + 11) + (headSpec ws rm).room.locals ≤ R.locals := hlocals
  have happ : (headSpec ws rm).appliesLoose y e.platform (U.calling g mk a) = true :=
    Spec.appliesLoose_calling (g := g) h hdg hn hkY hinitY
      (X.room_calling (g := g) (R' := (headSpec ws rm).room) hsize hmY hcY hframes (by rw [hlY]; omega) h4 h5) h1
  obtain ⟨mid, hmid⟩ := h.above
  have hfr : (U.setTop g).frames = (.java g :: mid) ++ below := by rw [State.frames_setTop' g h.top, hmid]; rfl
  obtain ⟨o, s₂, hsteps, -, hend, hq⟩ := Steps.callFree hM p X.admits X.cas X.clock (acts := []) hfr happ hPc trivial
  have hq' : vx_Q Qc XC mc ms free a (U.calling g mk a) o s₂ := hq
  rw [State.frames_setTop' g h.top] at hend
  obtain ⟨g₀, hg0⟩ := Option.isSome_iff_exists.mp h.top
  obtain ⟨r, hr⟩ := State.topJava?_eq_some.mp hg0
  have hr' : (({ U with heap := s₂.heap, slotsUsed := s₂.slotsUsed } : State).setVm s₂.vm).frames = .java g₀ :: r := hr
  rcases hq' with ⟨hqc, L, hfe, hL⟩ | ⟨q, rfl, E, ce, L, hx, hce, hcv, hcl, hW₂, hsm, hL⟩
  · obtain ⟨⟨v, rfl⟩, hW₂, e2, q2, q3, q4, q5, q6⟩ := id hfe
    have e3 : s₂ = ({ (U.calling g mk a).setFrames s₂.frames with heap := s₂.heap, slotsUsed := s₂.slotsUsed } : State).setVm s₂.vm := by
      have : s₂ = ({ s₂ with vm := (U.calling g mk a).vm } : State).setVm s₂.vm := rfl
      rw [e2] at this
      exact this
    obtain ⟨c₂, i₂, len₂, hc₂, hd₂, hf₂⟩ := hend
    have hW' : U.WarmedH s₂.vm := hW₂
    have hcc : c₂ = c := by
      have h1 : s₂.code? g.method = U.code? g.method := by
        rw [State.code?_eq, State.code?_eq, hW'.alike.method?]
      exact Option.some.inj (hc₂.symm.trans (h1.trans h.code))
    subst hcc
    have hlen : len₂ = len := by rw [hdg] at hd₂; cases hd₂; rfl
    subst hlen
    have hs₂ : s₂ = (({ U with heap := s₂.heap, slotsUsed := s₂.slotsUsed } : State).setVm s₂.vm).setTop { g with pc := g.pc + len₂, stack := v.toList ++ g.stack } := by
      refine e3.trans ?_
      rw [hf₂, State.calling_eq h.top, State.setFrames_setFrames, State.setTop_of_frames _ hr', hr]
      rfl
    have hsame : U.sameButNew ({ U with heap := s₂.heap, slotsUsed := s₂.slotsUsed } : State) L mc ms := by
      refine ⟨?_, q2, q3, q4, q5, q6⟩
      obtain ⟨t, ht, -⟩ := State.frames_cons hr
      show ({ U with heap := s₂.heap, slotsUsed := s₂.slotsUsed } : State) = { U.setFrames U.frames with heap := s₂.heap, slotsUsed := s₂.slotsUsed }
      rw [State.setFrames_self ht]
    subst hg
    refine Or.inl ⟨v, ⟨(({ U with heap := s₂.heap, slotsUsed := s₂.slotsUsed } : State).setVm s₂.vm), Ls ++ L, c0 + mc, s0 + ms⟩,
      ⟨X.admits, X.cas, X.clock, X.frames, X.room, X.hears, X.method, X.code, (X.here.setHeapUsed s₂.heap s₂.slotsUsed).setVm hW'.alike, X.tail, State.WarmedH.trans X.warmed hW', X.limits, X.bytes, X.same.trans (hsame.setVm s.vm)⟩,
      ⟨g, mk, s₂, L, rfl, rfl, hqc, rfl, hL, rfl, rfl⟩, ?_⟩
    show Steps p.tables e below _ ((({ U with heap := s₂.heap, slotsUsed := s₂.slotsUsed } : State).setVm s₂.vm).setTop { g with pc := g.pc + len₂, stack := v.toList ++ g.stack })
    rw [← hs₂]
    exact hsteps
  · obtain ⟨e2, q2, q3, q4, q5, q6⟩ := id hsm
    have e3 : s₂ = ({ (U.calling g mk a).setFrames s₂.frames with heap := s₂.heap, slotsUsed := s₂.slotsUsed } : State).setVm s₂.vm := by
      have : s₂ = ({ s₂ with vm := (U.calling g mk a).vm } : State).setVm s₂.vm := rfl
      rw [e2] at this
      exact this
    have hf₂ : s₂.frames = .throwing q :: .java g :: U.frames.tail := hend
    have hW' : U.WarmedH s₂.vm := hW₂
    have hs₂ : s₂ = ((({ U with heap := s₂.heap, slotsUsed := s₂.slotsUsed } : State).setVm s₂.vm).setTop g).pushFrame (.throwing q) := by
      refine e3.trans ?_
      rw [hf₂, State.calling_eq h.top, State.setFrames_setFrames, State.pushFrame, State.frames_setTop _ hr', State.setTop_of_frames _ hr', State.setFrames_setFrames, hr]
      rfl
    have hsame : U.sameButNew ({ U with heap := s₂.heap, slotsUsed := s₂.slotsUsed } : State) L mc ms := by
      refine ⟨?_, q2, q3, q4, q5, q6⟩
      obtain ⟨t, ht, -⟩ := State.frames_cons hr
      show ({ U with heap := s₂.heap, slotsUsed := s₂.slotsUsed } : State) = { U.setFrames U.frames with heap := s₂.heap, slotsUsed := s₂.slotsUsed }
      rw [State.setFrames_self ht]
    subst hg
    refine Or.inr ⟨q, ⟨(({ U with heap := s₂.heap, slotsUsed := s₂.slotsUsed } : State).setVm s₂.vm), Ls ++ L, c0 + mc, s0 + ms⟩,
      ⟨X.admits, X.cas, X.clock, X.frames, X.room, X.hears, X.method, X.code, (X.here.setHeapUsed s₂.heap s₂.slotsUsed).setVm hW'.alike, X.tail, State.WarmedH.trans X.warmed hW', X.limits, X.bytes, X.same.trans (hsame.setVm s.vm)⟩,
      ⟨g, mk, s₂, L, E, ce, rfl, rfl, hx, hce, hcv, hcl, rfl, hL, rfl, rfl⟩, ?_⟩
    show Steps p.tables e below _ (((({ U with heap := s₂.heap, slotsUsed := s₂.slotsUsed } : State).setVm s₂.vm).setTop g).pushFrame (.throwing q))
    rw [← hs₂]
    exact hsteps
end
variable {p : Program} {l : Launch} {e : Env} {R : Room} {s : State} {m : MethodId} {args : Array Value} {below : List Frame} {meth : Method} {c : Code} {T : State} {H : Heap} {locs : List Loc} {cells slots : Nat}
theorem vx_callVX (X : Stand p l e R s m args below meth c T locs cells slots) (hexec : p.tables.exec = Jvm.exec) {own C : String} {index : Nat} {y : MethodName} {bytes : ByteArray} {maxL : Nat} {ret : Option FieldType} {hh : List (Nat × Nat × Nat × Nat)}
    (hown : s.vm.findClass own = some m.cls) (hlink : (Cond.methodLink own index y).before args s = true) (hinst : (Cond.instanceMethod y).before args s = true) (hsel : (Cond.selects C y y).before args s = true)
    (hcode : (Cond.codeWith y bytes maxL ret hh).before args s = true) (hy : y.cls ≠ "java/lang/invoke/MethodHandle" ∧ y.cls ≠ "java/lang/invoke/VarHandle")
    {W9 : Nat} {Pre : Pt → Array Value → Prop} {Post : Pt → Array Value → Option Value → Pt → Prop} {PostX : Pt → Array Value → Addr → Pt → Prop} (hK : vx_Back l R p e below s args y 3 W9 Pre Post PostX)
    {b : Addr} {cellB : Cell} (hcell : T.heap[b]? = some cellB) (hobj : cellB.vm.isStatics = false) (hcls : s.vm.findClass C = some cellB.cls)
    {g : JFrame} (hg : g.method = m) (hsize : g.locals.size = c.maxLocals) {argsL rest : List Value} (hlen : ∀ sig, parseMethodDescriptor y.desc = some sig → argsL.length = sig.parameters.length)
    (hstack : g.stack = argsL.reverse ++ .ref b :: rest) (hW : 2 * g.monitorRoom + (rest.map fun v => v.category).sum ≤ W9) (hdg : decode c.code g.pc = .ok (.invokevirtual index, 3))
    (hpre : ∀ vm₁, s.WarmedH vm₁ → Pre ⟨T.setVm vm₁, locs, cells, slots⟩ (Value.ref b :: argsL).toArray) :
    (∃ (v : Option Value) (vm₁ : Vm) (B : Pt), s.WarmedH vm₁ ∧ Stand p l e R s m args below meth c B.U B.locs B.cells B.slots ∧ Post ⟨T.setVm vm₁, locs, cells, slots⟩ (Value.ref b :: argsL).toArray v B ∧
      ∀ target, Steps p.tables e below (B.U.setTop { g with pc := g.pc + 3, stack := v.toList ++ rest }) target → Steps p.tables e below (T.setTop g) target) ∨
    (∃ (q : Addr) (vm₁ : Vm) (B : Pt), s.WarmedH vm₁ ∧ Stand p l e R s m args below meth c B.U B.locs B.cells B.slots ∧ PostX ⟨T.setVm vm₁, locs, cells, slots⟩ (Value.ref b :: argsL).toArray q B ∧
      Steps p.tables e below (T.setTop g) ((B.U.setTop { g with stack := rest }).pushFrame (.throwing q))) := by
  obtain ⟨mk, methM, hnamed, hmethM, hstM, habM⟩ := Cond.instanceMethod_spec hinst
  obtain ⟨m8, methM', cM, hn8, hmethM', -, -, -, -, -, -, hsigM⟩ := Cond.codeWith_spec hcode
  cases Option.some.inj (hn8.symm.trans hnamed)
  cases hmethM.symm.trans hmethM'
  obtain ⟨c2, r2, m2, q1, q2, q3, q4, kP, hkP, hkPi⟩ := Cond.selects_spec hsel
  cases hcls.symm.trans q1
  cases (State.methodFound?_of_named hnamed hy).symm.trans q2
  cases hnamed.symm.trans q3
  have hselP : selectMethod e.platform s.vm cellB.cls mk = .method mk := by rw [Launch.admits_selectMethod X.admits]; exact q4
  obtain ⟨vm₁, X₁, hstep₁⟩ := X.invokevirtual hexec hown hlink hnamed hmethM hstM hkP hkPi hy (a := b) (cell := cellB) hcell
    (fun z h => by rw [h] at hobj; cases hobj) hselP hmethM habM hkP hkPi (g := g) hg (argsL := argsL) (rest := rest) (hlen _ hsigM) hstack hdg
  rcases hK m meth c ⟨T.setVm vm₁, locs, cells, slots⟩ { g with stack := rest } (.invokevirtual index) mk (Value.ref b :: argsL).toArray X₁ hg hsize hdg hW (X₁.named hnamed) (hpre vm₁ X₁.warmed) with ⟨v, B, X', hpost, hsteps⟩ | ⟨q, B, X', hpost, hsteps⟩
  · exact Or.inl ⟨v, vm₁, B, X₁.warmed, X', hpost, fun target h => hstep₁ _ fun acts => by rw [doInvoke_state]; exact hsteps.trans h⟩
  · exact Or.inr ⟨q, vm₁, B, X₁.warmed, X', hpost, hstep₁ _ fun acts => by rw [doInvoke_state]; exact hsteps⟩
theorem vx_callSX (X : Stand p l e R s m args below meth c T locs cells slots) (hexec : p.tables.exec = Jvm.exec) {own : String} {index : Nat} {y : MethodName} {bytes : ByteArray} {maxL : Nat} {ret : Option FieldType} {hh : List (Nat × Nat × Nat × Nat)}
    (hown : s.vm.findClass own = some m.cls) (hlink : (Cond.methodLink own index y).before args s = true) (hstat : (Cond.static y).before args s = true) (hinit : (Cond.initialized y.cls).before args s = true)
    (hcode : (Cond.codeWith y bytes maxL ret hh).before args s = true) (hy : y.cls ≠ "java/lang/invoke/MethodHandle" ∧ y.cls ≠ "java/lang/invoke/VarHandle")
    {W9 : Nat} {Pre : Pt → Array Value → Prop} {Post : Pt → Array Value → Option Value → Pt → Prop} {PostX : Pt → Array Value → Addr → Pt → Prop} (hK : vx_Back l R p e below s args y 3 W9 Pre Post PostX)
    {g : JFrame} (hg : g.method = m) (hsize : g.locals.size = c.maxLocals) {argsL rest : List Value} (hlen : ∀ sig, parseMethodDescriptor y.desc = some sig → argsL.length = sig.parameters.length)
    (hstack : g.stack = argsL.reverse ++ rest) (hW : 2 * g.monitorRoom + (rest.map fun v => v.category).sum ≤ W9) (hdg : decode c.code g.pc = .ok (.invokestatic index, 3))
    (hpre : ∀ vm₁, s.WarmedH vm₁ → Pre ⟨T.setVm vm₁, locs, cells, slots⟩ argsL.toArray) :
    (∃ (v : Option Value) (vm₁ : Vm) (B : Pt), s.WarmedH vm₁ ∧ Stand p l e R s m args below meth c B.U B.locs B.cells B.slots ∧ Post ⟨T.setVm vm₁, locs, cells, slots⟩ argsL.toArray v B ∧
      ∀ target, Steps p.tables e below (B.U.setTop { g with pc := g.pc + 3, stack := v.toList ++ rest }) target → Steps p.tables e below (T.setTop g) target) ∨
    (∃ (q : Addr) (vm₁ : Vm) (B : Pt), s.WarmedH vm₁ ∧ Stand p l e R s m args below meth c B.U B.locs B.cells B.slots ∧ PostX ⟨T.setVm vm₁, locs, cells, slots⟩ argsL.toArray q B ∧
      Steps p.tables e below (T.setTop g) ((B.U.setTop { g with stack := rest }).pushFrame (.throwing q))) := by
  obtain ⟨mk, methM, cM, hnamed, hmethM, -, -, -, -, -, -, hsigM⟩ := Cond.codeWith_spec hcode
  have hstatic : methM.isStatic = true := Cond.static_spec hnamed hmethM hstat
  obtain ⟨kP, hkP, -⟩ := className_of_methodNamed hnamed
  have hinitP : kP.init = .initialized := Cond.initialized_spec (findClass_of_methodNamed hnamed) hkP hinit
  obtain ⟨vm₁, X₁, hstep₁⟩ := X.invokestatic hexec hown hlink hnamed hmethM hstatic hkP hinitP hy (g := g) hg (argsL := argsL) (rest := rest) (hlen _ hsigM) hstack hdg
  rcases hK m meth c ⟨T.setVm vm₁, locs, cells, slots⟩ { g with stack := rest } (.invokestatic index) mk argsL.toArray X₁ hg hsize hdg hW (X₁.named hnamed) (hpre vm₁ X₁.warmed) with ⟨v, B, X', hpost, hsteps⟩ | ⟨q, B, X', hpost, hsteps⟩
  · exact Or.inl ⟨v, vm₁, B, X₁.warmed, X', hpost, fun target h => hstep₁ _ fun acts => by rw [doInvoke_state]; exact hsteps.trans h⟩
  · exact Or.inr ⟨q, vm₁, B, X₁.warmed, X', hpost, hstep₁ _ fun acts => by rw [doInvoke_state]; exact hsteps⟩
theorem vx_callVW (X : Stand p l e R s m args below meth c T locs cells slots) (hexec : p.tables.exec = Jvm.exec) {own C : String} {index : Nat} {y : MethodName} {bytes : ByteArray} {maxL : Nat} {ret : Option FieldType} {hh : List (Nat × Nat × Nat × Nat)}
    (hown : s.vm.findClass own = some m.cls) (hlink : (Cond.methodLink own index y).before args s = true) (hinst : (Cond.instanceMethod y).before args s = true) (hsel : (Cond.selects C y y).before args s = true)
    (hcode : (Cond.codeWith y bytes maxL ret hh).before args s = true) (hy : y.cls ≠ "java/lang/invoke/MethodHandle" ∧ y.cls ≠ "java/lang/invoke/VarHandle")
    {W9 : Nat} {Pre : Pt → Array Value → Prop} {Post : Pt → Array Value → Option Value → Pt → Prop} (hK : Back l R p e below s args y 3 W9 Pre Post)
    {b : Addr} {cellB : Cell} (hcell : T.heap[b]? = some cellB) (hobj : cellB.vm.isStatics = false) (hcls : s.vm.findClass C = some cellB.cls)
    {g : JFrame} (hg : g.method = m) (hsize : g.locals.size = c.maxLocals) {argsL rest : List Value} (hlen : ∀ sig, parseMethodDescriptor y.desc = some sig → argsL.length = sig.parameters.length)
    (hstack : g.stack = argsL.reverse ++ .ref b :: rest) (hW : 2 * g.monitorRoom + (rest.map fun v => v.category).sum ≤ W9) (hdg : decode c.code g.pc = .ok (.invokevirtual index, 3))
    (hpre : ∀ vm₁, s.WarmedH vm₁ → Pre ⟨T.setVm vm₁, locs, cells, slots⟩ (Value.ref b :: argsL).toArray) :
    ∃ (v : Option Value) (vm₁ : Vm) (B : Pt), s.WarmedH vm₁ ∧ Stand p l e R s m args below meth c B.U B.locs B.cells B.slots ∧ Post ⟨T.setVm vm₁, locs, cells, slots⟩ (Value.ref b :: argsL).toArray v B ∧
      ∀ target, Steps p.tables e below (B.U.setTop { g with pc := g.pc + 3, stack := v.toList ++ rest }) target → Steps p.tables e below (T.setTop g) target := by
  obtain ⟨mk, methM, hnamed, hmethM, hstM, habM⟩ := Cond.instanceMethod_spec hinst
  obtain ⟨m8, methM', cM, hn8, hmethM', -, -, -, -, -, -, hsigM⟩ := Cond.codeWith_spec hcode
  cases Option.some.inj (hn8.symm.trans hnamed)
  cases hmethM.symm.trans hmethM'
  obtain ⟨c2, r2, m2, q1, q2, q3, q4, kP, hkP, hkPi⟩ := Cond.selects_spec hsel
  cases hcls.symm.trans q1
  cases (State.methodFound?_of_named hnamed hy).symm.trans q2
  cases hnamed.symm.trans q3
  have hselP : selectMethod e.platform s.vm cellB.cls mk = .method mk := by rw [Launch.admits_selectMethod X.admits]; exact q4
  obtain ⟨vm₁, X₁, hstep₁⟩ := X.invokevirtual hexec hown hlink hnamed hmethM hstM hkP hkPi hy (a := b) (cell := cellB) hcell
    (fun z h => by rw [h] at hobj; cases hobj) hselP hmethM habM hkP hkPi (g := g) hg (argsL := argsL) (rest := rest) (hlen _ hsigM) hstack hdg
  obtain ⟨v, B, X', hpost, hsteps⟩ := hK m meth c ⟨T.setVm vm₁, locs, cells, slots⟩ { g with stack := rest } (.invokevirtual index) mk (Value.ref b :: argsL).toArray X₁ hg hsize hdg hW (X₁.named hnamed) (hpre vm₁ X₁.warmed)
  exact ⟨v, vm₁, B, X₁.warmed, X', hpost, fun target h => hstep₁ _ fun acts => by rw [doInvoke_state]; exact hsteps.trans h⟩
abbrev vx_CVW (R : Room) (s : State) (args : Array Value) (own C : String) (index : Nat) (y : MethodName) (bytes : ByteArray) (maxL : Nat) (ret : Option FieldType) (hh : List (Nat × Nat × Nat × Nat)) (ws : List Cond) (rm : Room) (mc ms n : Nat) : Prop :=
  (rm.cells = mc ∧ rm.slots = ms ∧ rm.frames + 1 ≤ R.frames ∧ 8 + (maxL + 11) + rm.locals ≤ R.locals ∧ (∀ w ∈ ws, ∀ (a' : Array Value) (U : State), s.WarmedH U.vm → w.before a' U = true) ∧ Cond.codeWith y bytes maxL ret hh ∈ ws) ∧
  (Cond.codeWith y bytes maxL ret hh).before args s = true ∧ (Cond.initialized y.cls).before args s = true ∧ (y.cls ≠ "java/lang/invoke/MethodHandle" ∧ y.cls ≠ "java/lang/invoke/VarHandle") ∧
  (∀ sig, parseMethodDescriptor y.desc = some sig → n = sig.parameters.length) ∧ (Cond.methodLink own index y).before args s = true ∧ (Cond.instanceMethod y).before args s = true ∧ (Cond.selects C y y).before args s = true
theorem vx_cwVW {own C : String} {index maxL mc ms : Nat} {y : MethodName} {bytes : ByteArray} {ret : Option FieldType} {hh : List (Nat × Nat × Nat × Nat)} {Ts ws ws' : List Cond} {rm : Room} (n : Nat) (ht : ∀ w ∈ Ts, w.before args s = true) (hT : GoodIn Ts (wsV own index C y ws)) (hw : ws = Cond.codeWith y bytes maxL ret hh :: ws') (hrc : rm.cells = mc) (hrs : rm.slots = ms)
    (hd : y.cls = C ∧ y.cls ≠ "java/lang/invoke/MethodHandle" ∧ y.cls ≠ "java/lang/invoke/VarHandle" ∧ (parseMethodDescriptor y.desc).map (fun d => d.parameters.length) = some n) (hR : rm.frames + 1 ≤ R.frames ∧ 8 + (maxL + 11) + rm.locals ≤ R.locals) :
    vx_CVW R s args own C index y bytes maxL ret hh ws rm mc ms n := by
  obtain ⟨hC, hd⟩ := hd
  subst hC
  have ok : ∀ w ∈ wsV own index y.cls y ws, w.before args s = true := fun w h => ht w (hT w h).1
  have hG : GoodIn Ts ws := fun w h => hT w (by unfold wsV; exact List.mem_append_right _ h)
  have hc : Cond.codeWith y bytes maxL ret hh ∈ ws := by rw [hw]; exact List.mem_cons_self
  refine ⟨⟨hrc, hrs, hR.1, hR.2, pay_in ht hG, hc⟩, ht _ (hG _ hc).1, ok _ (by simp [wsV]), ⟨hd.1, hd.2.1⟩, fun sig h => ?_, ok _ (by simp [wsV]), ok _ (by simp [wsV]), ok _ (by simp [wsV])⟩
  have h2 := hd.2.2
  rw [h] at h2
  exact (Option.some.inj h2).symm
theorem vx_runVW {y : MethodName} {bytes cc : ByteArray} {maxL nL mc ms n index : Nat} {ret : Option FieldType} {hh : List (Nat × Nat × Nat × Nat)} {ws : List Cond} {rm : Room} {Pc : Array Value → State → Prop} {Qc : Array Value → State → Outcome → State → Prop} {free : Addr → Prop} {Ts : List Cond} {own C : String} {b : Addr} {As rest : List Value} {g : JFrame}
    (S : CallFix p m c cc nL s args Ts own) (hM : Met l y ws rm Pc Qc mc ms free) (cw : vx_CVW R s args own C index y bytes maxL ret hh ws rm mc ms n) (hp : PreV s H C b Pc As)
    (hg : g.method = m) (hn : As.length = n) (hsize : g.locals.size = nL) (hstack : g.stack = As.reverse ++ .ref b :: rest) (hW : 2 * g.monitorRoom + (rest.map fun v => v.category).sum ≤ 8) (hdg : decode cc g.pc = .ok (.invokevirtual index, 3)) (hf : cells + mc ≤ R.cells ∧ slots + ms ≤ R.slots) :
    va_Run p l e R s m args below meth c H locs cells slots mc ms g rest (Qc (Value.ref b :: As).toArray) free := by
  obtain ⟨⟨hrc, hrs, hfr, hlo, hws, hcw⟩, hcode, hini, hy, hlen, hl, hin, hse⟩ := cw
  have hK : Back l R p e below s args y 3 8 (PreOf R mc ms Pc) (PostOf Qc mc ms free) := va_backW (hh := hh) (bytes := bytes) (maxL := maxL) (ret := ret) hM hp.1 hrc hrs hfr hlo hws hcw (fun a' U hW => word_at hW (Or.inl (by first | rfl | simp [Cond.onTables, Cond.keeps, Cond.steady])) hini)
  obtain ⟨hx, hb, hml, ho, -⟩ := S
  obtain ⟨-, ⟨cellB, hcB, hoB, hclB⟩, hPc⟩ := hp
  intro T hT X
  obtain ⟨v, vm₁, ⟨U', l2, c2, s2⟩, hW₁, X', ⟨g', mk, t, L, e1, e2, hq, h1, hL, h2, h3⟩, st⟩ := vx_callVW X hx (C := C) (hh := hh) (bytes := bytes) (maxL := maxL) (ret := ret) ho hl hin hse hcode hy hK (by rw [hT]; exact hcB) hoB hclB hg (hsize.trans hml.symm) (argsL := As) (rest := rest) (fun sig h => hn.trans (hlen sig h)) hstack hW (by rw [hb]; exact hdg)
    (fun vm₁ hW₁ => ⟨hf.1, hf.2, hPc (T.setVm vm₁) hT hW₁⟩)
  dsimp only [Pt.U, Pt.locs, Pt.cells, Pt.slots] at X' e1 e2 h1 h2 h3 st
  subst h1; subst h2; subst h3
  exact ⟨v, (T.setVm vm₁).calling g' mk (Value.ref b :: As).toArray, t, U', L, hT, X', hL, e1, e2, hq, st⟩
section
variable {y : MethodName} {bytes cc : ByteArray} {maxL nL mc ms n index : Nat} {ret : Option FieldType} {ws : List Cond} {rm : Room} {Pc : Array Value → State → Prop} {Qc : Array Value → State → Outcome → State → Prop} {XC : String → State → State → Prop} {free : Addr → Prop} {Ts : List Cond} {own C : String} {b : Addr} {As rest : List Value} {g : JFrame}
theorem vx_runVX {hh : List (Nat × Nat × Nat × Nat)} (S : CallFix p m c cc nL s args Ts own) (hM : vx_Met l y ws rm Pc Qc XC mc ms free) (cw : vx_CVW R s args own C index y bytes maxL ret hh ws rm mc ms n) (hp : PreV s H C b Pc As)
    (hg : g.method = m) (hn : As.length = n) (hsize : g.locals.size = nL) (hstack : g.stack = As.reverse ++ .ref b :: rest) (hW : 2 * g.monitorRoom + (rest.map fun v => v.category).sum ≤ 8) (hdg : decode cc g.pc = .ok (.invokevirtual index, 3)) (hf : cells + mc ≤ R.cells ∧ slots + ms ≤ R.slots) :
    vx_Run p l e R s m args below meth c H locs cells slots mc ms g rest (Qc (Value.ref b :: As).toArray) XC free := by
  obtain ⟨⟨hrc, hrs, hfr, hlo, hws, hcw⟩, hcode, hini, hy, hlen, hl, hin, hse⟩ := cw
  have hK : vx_Back l R p e below s args y 3 8 (PreOf R mc ms Pc) (PostOf Qc mc ms free) (vx_Post XC mc ms free) := vx_backW (hh := hh) (bytes := bytes) (maxL := maxL) (ret := ret) hM hp.1 hrc hrs hfr hlo hws hcw (fun a' U hW => word_at hW (Or.inl (by first | rfl | simp [Cond.onTables, Cond.keeps, Cond.steady])) hini)
  obtain ⟨hx, hb, hml, ho, -⟩ := S
  obtain ⟨-, ⟨cellB, hcB, hoB, hclB⟩, hPc⟩ := hp
  intro T hT X
  rcases vx_callVX X hx (C := C) (hh := hh) (bytes := bytes) (maxL := maxL) (ret := ret) ho hl hin hse hcode hy hK (by rw [hT]; exact hcB) hoB hclB hg (hsize.trans hml.symm) (argsL := As) (rest := rest) (fun sig h => hn.trans (hlen sig h)) hstack hW (by rw [hb]; exact hdg)
    (fun vm₁ hW₁ => ⟨hf.1, hf.2, hPc (T.setVm vm₁) hT hW₁⟩) with ⟨v, vm₁, ⟨U', l2, c2, s2⟩, hW₁, X', ⟨g', mk, t, L, e1, e2, hq, h1, hL, h2, h3⟩, st⟩ | ⟨q, vm₁, ⟨U', l2, c2, s2⟩, hW₁, X', ⟨g', mk, t, L, E, ce, e1, e2, hq, hce, hcv, hcl, h1, hL, h2, h3⟩, st⟩
  · dsimp only [Pt.U, Pt.locs, Pt.cells, Pt.slots] at X' e1 e2 h1 h2 h3 st
    subst h1; subst h2; subst h3
    exact Or.inl ⟨v, (T.setVm vm₁).calling g' mk (Value.ref b :: As).toArray, t, U', L, hT, X', hL, e1, e2, hq, st⟩
  · dsimp only [Pt.U, Pt.locs, Pt.cells, Pt.slots] at X' e1 e2 h1 h2 h3 st hcl
    subst h1; subst h2; subst h3
    exact Or.inr ⟨q, (T.setVm vm₁).calling g' mk (Value.ref b :: As).toArray, t, U', L, E, ce, hT, X', hL, e1, e2, hq, hce, hcv, vx_cls hW₁ hcl, st⟩
theorem vx_runSX {hh : List (Nat × Nat × Nat × Nat)} (S : CallFix p m c cc nL s args Ts own) (hM : vx_Met l y ws rm Pc Qc XC mc ms free) (cw : vx_CSW R s args own index y bytes maxL ret hh ws rm mc ms n) (hp : PreS s H Pc As)
    (hg : g.method = m) (hn : As.length = n) (hsize : g.locals.size = nL) (hstack : g.stack = As.reverse ++ rest) (hW : 2 * g.monitorRoom + (rest.map fun v => v.category).sum ≤ 8) (hdg : decode cc g.pc = .ok (.invokestatic index, 3)) (hf : cells + mc ≤ R.cells ∧ slots + ms ≤ R.slots) :
    vx_Run p l e R s m args below meth c H locs cells slots mc ms g rest (Qc As.toArray) XC free := by
  obtain ⟨⟨hrc, hrs, hfr, hlo, hws, hcw⟩, hcode, hini, hy, hlen, hl, hstt⟩ := cw
  have hK : vx_Back l R p e below s args y 3 8 (PreOf R mc ms Pc) (PostOf Qc mc ms free) (vx_Post XC mc ms free) := vx_backW (hh := hh) (bytes := bytes) (maxL := maxL) (ret := ret) hM hp.1 hrc hrs hfr hlo hws hcw (fun a' U hW => word_at hW (Or.inl (by first | rfl | simp [Cond.onTables, Cond.keeps, Cond.steady])) hini)
  obtain ⟨hx, hb, hml, ho, -⟩ := S
  intro T hT X
  rcases vx_callSX X hx (hh := hh) (bytes := bytes) (maxL := maxL) (ret := ret) ho hl hstt hini hcode hy hK hg (hsize.trans hml.symm) (argsL := As) (rest := rest) (fun sig h => hn.trans (hlen sig h)) hstack hW (by rw [hb]; exact hdg)
    (fun vm₁ hW₁ => ⟨hf.1, hf.2, hp.2 (T.setVm vm₁) hT hW₁⟩) with ⟨v, vm₁, ⟨U', l2, c2, s2⟩, hW₁, X', ⟨g', mk, t, L, e1, e2, hq, h1, hL, h2, h3⟩, st⟩ | ⟨q, vm₁, ⟨U', l2, c2, s2⟩, hW₁, X', ⟨g', mk, t, L, E, ce, e1, e2, hq, hce, hcv, hcl, h1, hL, h2, h3⟩, st⟩
  · dsimp only [Pt.U, Pt.locs, Pt.cells, Pt.slots] at X' e1 e2 h1 h2 h3 st
    subst h1; subst h2; subst h3
    exact Or.inl ⟨v, (T.setVm vm₁).calling g' mk As.toArray, t, U', L, hT, X', hL, e1, e2, hq, st⟩
  · dsimp only [Pt.U, Pt.locs, Pt.cells, Pt.slots] at X' e1 e2 h1 h2 h3 st hcl
    subst h1; subst h2; subst h3
    exact Or.inr ⟨q, (T.setVm vm₁).calling g' mk As.toArray, t, U', L, E, ce, hT, X', hL, e1, e2, hq, hce, hcv, vx_cls hW₁ hcl, st⟩
end
end VXH
theorem vx_ofWH {l : Launch} {y : MethodName} {ws ws' : List Cond} {rm : Room} {Pc : Array Value → State → Prop} {Qc : Array Value → State → Outcome → State → Prop} {XC : String → State → State → Prop} {mc ms : Nat} {free : Addr → Prop} {cc : ByteArray} {maxL : Nat} {ret : Option FieldType} {hh : List (Nat × Nat × Nat × Nat)}
    (hy : plainName y.cls = true) (hw : ws = Cond.codeWith y cc maxL ret hh :: ws')
    (body : ∀ p e s m args below meth c s₁, BodyLoose p l y (headSpec ws rm) cc maxL ret e s m args below meth c s₁ → c.maxLocals = maxL → Pc args s →
      W p l e (headSpec ws rm).room s m args below meth c s.heap [] 0 0 (vx_MQ below Qc XC args s mc ms free) (entryFrame m args maxL)) : vx_Met l y ws rm Pc Qc XC mc ms free := by
  refine MetFree.of_bodyS (code := cc) (maxLocals := maxL) (ret := ret) hy ?_ ?_
  · intro args s m h hn
    obtain ⟨m9, meth, c, hn9, h1, h2, h3, h4, -, h5, h6, -⟩ := Cond.codeWith_spec (atoms_spec (ws := ws) h _ (by rw [hw]; exact List.mem_cons_self))
    cases hn.symm.trans hn9
    exact ⟨meth, c, h1, h2, h3, h4, h5, h6⟩
  · intro p e s m args below meth c s₁ B hml hP _
    have hh0 : s₁.heap = s.heap := by rw [B.state]; rfl
    obtain ⟨t, a1, o, b1, b2, b3⟩ := body p e s m args below meth c s₁ B hml hP s₁ hh0 (Stand.of_body B)
    exact ⟨t, o, a1, b1, b2, b3⟩
/-! ===== END ===== -/
end
section
def RX0 : String := "ArmTolls$Gear"
def TX0 : u_T := fun k => match k with
  | 0 => ("ArmTolls$Gear", "wears", "[I", true)
  | 1 => ("ArmTolls$Gear", "place", "I", false)
  | 2 => ("ArmTolls$Gear", "believed", "I", false)
  | 3 => ("ArmTolls$Gear", "load", "I", false)
  | 4 => ("ArmTolls$Gear", "way", "I", false)
  | 5 => ("ArmTolls$Gear", "slack", "I", false)
  | 6 => ("ArmTolls$Gear", "greased", "I", false)
  | 7 => ("ArmTolls$Gear", "steps", "I", false)
  | 8 => ("ArmTolls$Gear", "slips", "I", false)
  | 9 => ("ArmTolls$Gear", "tolls", "I", false)
  | 10 => ("ArmTolls$Gear", "turns", "I", false)
  | _ => ("ArmTolls$Gear", "homings", "I", false)
def tyX0 : Nat → FieldType := fun k => match k with
  | 0 => .array .int
  | 1 => .int
  | 2 => .int
  | 3 => .int
  | 4 => .int
  | 5 => .int
  | 6 => .int
  | 7 => .int
  | 8 => .int
  | 9 => .int
  | 10 => .int
  | _ => .int
theorem nmX0 : ∀ a, a < 12 → ∀ b, b < 12 → a ≠ b → (TX0 a).2.1 ≠ (TX0 b).2.1 := by decide +kernel
theorem tyX0_ok : ∀ k, k < 12 → parseFieldDescriptor (TX0 k).2.2.1 = some (tyX0 k) := by decide +kernel
abbrev cX0_init : ByteArray := prog_2_method_1_code
def yX0_init : MethodName := ⟨RX0, "<init>", "()V"⟩
abbrev cX0_nextPlace : ByteArray := prog_2_method_2_code
def yX0_nextPlace : MethodName := ⟨RX0, "nextPlace", "(II)I"⟩
abbrev cX0_toothBy : ByteArray := prog_2_method_3_code
def yX0_toothBy : MethodName := ⟨RX0, "toothBy", "(II)I"⟩
abbrev cX0_distance : ByteArray := prog_2_method_4_code
def yX0_distance : MethodName := ⟨RX0, "distance", "(II)I"⟩
abbrev cX0_wearOf : ByteArray := prog_2_method_5_code
def yX0_wearOf : MethodName := ⟨RX0, "wearOf", "(I)I"⟩
abbrev cX0_setWear : ByteArray := prog_2_method_6_code
def yX0_setWear : MethodName := ⟨RX0, "setWear", "(II)V"⟩
abbrev cX0_tollWith : ByteArray := prog_2_method_7_code
def yX0_tollWith : MethodName := ⟨RX0, "tollWith", "(IILArmTolls$Rules;)I"⟩
abbrev cX0_tollOfStep : ByteArray := prog_2_method_8_code
def yX0_tollOfStep : MethodName := ⟨RX0, "tollOfStep", "(ILArmTolls$Rules;)I"⟩
abbrev cX0_isTurn : ByteArray := prog_2_method_9_code
def yX0_isTurn : MethodName := ⟨RX0, "isTurn", "(I)Z"⟩
abbrev cX0_makeStep : ByteArray := prog_2_method_10_code
def yX0_makeStep : MethodName := ⟨RX0, "makeStep", "(IILArmTolls$Rules;)I"⟩
abbrev cX0_makeHomed : ByteArray := prog_2_method_11_code
def yX0_makeHomed : MethodName := ⟨RX0, "makeHomed", "(ILArmTolls$Rules;)I"⟩
abbrev cX0_costOfWay : ByteArray := prog_2_method_12_code
def yX0_costOfWay : MethodName := ⟨RX0, "costOfWay", "(IIILArmTolls$Rules;)I"⟩
abbrev cX0_possiblePlaces : ByteArray := prog_2_method_13_code
def yX0_possiblePlaces : MethodName := ⟨RX0, "possiblePlaces", "()I"⟩
abbrev cX0_property : ByteArray := prog_2_method_14_code
def yX0_property : MethodName := ⟨RX0, "property", "(I)I"⟩
abbrev cX0_copyFrom : ByteArray := prog_2_method_15_code
def yX0_copyFrom : MethodName := ⟨RX0, "copyFrom", "(LArmTolls$Gear;)V"⟩
def RX1 : String := "ArmTolls$History"
def TX1 : u_T := fun k => match k with
  | 0 => ("ArmTolls$History", "rows", "[LArmTolls$State;", true)
  | 1 => ("ArmTolls$History", "newest", "I", false)
  | _ => ("ArmTolls$History", "kept", "I", false)
def tyX1 : Nat → FieldType := fun k => match k with
  | 0 => .array (.object "ArmTolls$State")
  | 1 => .int
  | _ => .int
theorem nmX1 : ∀ a, a < 3 → ∀ b, b < 3 → a ≠ b → (TX1 a).2.1 ≠ (TX1 b).2.1 := by decide +kernel
theorem tyX1_ok : ∀ k, k < 3 → parseFieldDescriptor (TX1 k).2.2.1 = some (tyX1 k) := by decide +kernel
abbrev cX1_init : ByteArray := prog_3_method_1_code
def yX1_init : MethodName := ⟨RX1, "<init>", "()V"⟩
abbrev cX1_newestRow : ByteArray := prog_3_method_2_code
def yX1_newestRow : MethodName := ⟨RX1, "newestRow", "()LArmTolls$State;"⟩
abbrev cX1_save : ByteArray := prog_3_method_3_code
def yX1_save : MethodName := ⟨RX1, "save", "(LArmTolls$State;)V"⟩
abbrev cX1_restoreInto : ByteArray := prog_3_method_4_code
def yX1_restoreInto : MethodName := ⟨RX1, "restoreInto", "(LArmTolls$State;)V"⟩
def RX2 : String := "ArmTolls$Reader"
def TX2 : u_T := fun k => match k with
  | 0 => ("ArmTolls$Reader", "phase", "I", false)
  | 1 => ("ArmTolls$Reader", "axis", "I", false)
  | 2 => ("ArmTolls$Reader", "kind", "I", false)
  | _ => ("ArmTolls$Reader", "number", "I", false)
def tyX2 : Nat → FieldType := fun k => match k with
  | 0 => .int
  | 1 => .int
  | 2 => .int
  | _ => .int
theorem nmX2 : ∀ a, a < 4 → ∀ b, b < 4 → a ≠ b → (TX2 a).2.1 ≠ (TX2 b).2.1 := by decide +kernel
theorem tyX2_ok : ∀ k, k < 4 → parseFieldDescriptor (TX2 k).2.2.1 = some (tyX2 k) := by decide +kernel
abbrev cX2_init : ByteArray := prog_4_method_1_code
def yX2_init : MethodName := ⟨RX2, "<init>", "()V"⟩
abbrev cX2_begin : ByteArray := prog_4_method_2_code
def yX2_begin : MethodName := ⟨RX2, "begin", "()V"⟩
abbrev cX2_isAtEndOfCommand : ByteArray := prog_4_method_3_code
def yX2_isAtEndOfCommand : MethodName := ⟨RX2, "isAtEndOfCommand", "()Z"⟩
abbrev cX2_take : ByteArray := prog_4_method_4_code
def yX2_take : MethodName := ⟨RX2, "take", "(I)Z"⟩
abbrev cX2_takeLetter : ByteArray := prog_4_method_5_code
def yX2_takeLetter : MethodName := ⟨RX2, "takeLetter", "(I)Z"⟩
abbrev cX2_takeKind : ByteArray := prog_4_method_6_code
def yX2_takeKind : MethodName := ⟨RX2, "takeKind", "(I)Z"⟩
abbrev cX2_takeFirstDigit : ByteArray := prog_4_method_7_code
def yX2_takeFirstDigit : MethodName := ⟨RX2, "takeFirstDigit", "(I)Z"⟩
abbrev cX2_takeSecondDigit : ByteArray := prog_4_method_8_code
def yX2_takeSecondDigit : MethodName := ⟨RX2, "takeSecondDigit", "(I)Z"⟩
abbrev cX2_takeSeparator : ByteArray := prog_4_method_9_code
def yX2_takeSeparator : MethodName := ⟨RX2, "takeSeparator", "(I)Z"⟩
def RX3 : String := "ArmTolls$Rules"
def TX3 : u_T := fun k => match k with
  | 0 => ("ArmTolls$Rules", "wearByStep", "I", false)
  | 1 => ("ArmTolls$Rules", "wearPerToll", "I", false)
  | 2 => ("ArmTolls$Rules", "wearThatSlips", "I", false)
  | 3 => ("ArmTolls$Rules", "mendingCost", "I", false)
  | 4 => ("ArmTolls$Rules", "greasedSteps", "I", false)
  | _ => ("ArmTolls$Rules", "greasingCost", "I", false)
def tyX3 : Nat → FieldType := fun k => match k with
  | 0 => .int
  | 1 => .int
  | 2 => .int
  | 3 => .int
  | 4 => .int
  | _ => .int
theorem nmX3 : ∀ a, a < 6 → ∀ b, b < 6 → a ≠ b → (TX3 a).2.1 ≠ (TX3 b).2.1 := by decide +kernel
theorem tyX3_ok : ∀ k, k < 6 → parseFieldDescriptor (TX3 k).2.2.1 = some (tyX3 k) := by decide +kernel
abbrev cX3_init : ByteArray := prog_5_method_1_code
def yX3_init : MethodName := ⟨RX3, "<init>", "()V"⟩
abbrev cX3_valueOf : ByteArray := prog_5_method_2_code
def yX3_valueOf : MethodName := ⟨RX3, "valueOf", "(I)I"⟩
abbrev cX3_put : ByteArray := prog_5_method_3_code
def yX3_put : MethodName := ⟨RX3, "put", "(II)V"⟩
abbrev cX3_copyFrom : ByteArray := prog_5_method_4_code
def yX3_copyFrom : MethodName := ⟨RX3, "copyFrom", "(LArmTolls$Rules;)V"⟩
def RX4 : String := "ArmTolls$State"
def TX4 : u_T := fun k => match k with
  | 0 => ("ArmTolls$State", "rules", "LArmTolls$Rules;", true)
  | 1 => ("ArmTolls$State", "gears", "[LArmTolls$Gear;", true)
  | 2 => ("ArmTolls$State", "purse", "I", false)
  | _ => ("ArmTolls$State", "careCosts", "I", false)
def tyX4 : Nat → FieldType := fun k => match k with
  | 0 => .object "ArmTolls$Rules"
  | 1 => .array (.object "ArmTolls$Gear")
  | 2 => .int
  | _ => .int
theorem nmX4 : ∀ a, a < 4 → ∀ b, b < 4 → a ≠ b → (TX4 a).2.1 ≠ (TX4 b).2.1 := by decide +kernel
theorem tyX4_ok : ∀ k, k < 4 → parseFieldDescriptor (TX4 k).2.2.1 = some (tyX4 k) := by decide +kernel
abbrev cX4_init : ByteArray := prog_6_method_1_code
def yX4_init : MethodName := ⟨RX4, "<init>", "()V"⟩
abbrev cX4_gearAt : ByteArray := prog_6_method_2_code
def yX4_gearAt : MethodName := ⟨RX4, "gearAt", "(I)LArmTolls$Gear;"⟩
abbrev cX4_payCare : ByteArray := prog_6_method_3_code
def yX4_payCare : MethodName := ⟨RX4, "payCare", "(I)V"⟩
abbrev cX4_sumOf : ByteArray := prog_6_method_4_code
def yX4_sumOf : MethodName := ⟨RX4, "sumOf", "(I)I"⟩
abbrev cX4_wearOfAll : ByteArray := prog_6_method_5_code
def yX4_wearOfAll : MethodName := ⟨RX4, "wearOfAll", "()I"⟩
abbrev cX4_teethWornTo : ByteArray := prog_6_method_6_code
def yX4_teethWornTo : MethodName := ⟨RX4, "teethWornTo", "(I)I"⟩
abbrev cX4_axesWhereBelieved : ByteArray := prog_6_method_7_code
def yX4_axesWhereBelieved : MethodName := ⟨RX4, "axesWhereBelieved", "()I"⟩
abbrev cX4_copyFrom : ByteArray := prog_6_method_8_code
def yX4_copyFrom : MethodName := ⟨RX4, "copyFrom", "(LArmTolls$State;)V"⟩
def RX5 : String := "ArmTolls"
def TX5 : u_T := fun k => match k with
  | 0 => ("ArmTolls", "now", "LArmTolls$State;", true)
  | 1 => ("ArmTolls", "history", "LArmTolls$History;", true)
  | 2 => ("ArmTolls", "trial", "LArmTolls$Gear;", true)
  | 3 => ("ArmTolls", "reader", "LArmTolls$Reader;", true)
  | 4 => ("ArmTolls", "buffer", "[I", true)
  | _ => ("ArmTolls", "length", "I", false)
def tyX5 : Nat → FieldType := fun k => match k with
  | 0 => .object "ArmTolls$State"
  | 1 => .object "ArmTolls$History"
  | 2 => .object "ArmTolls$Gear"
  | 3 => .object "ArmTolls$Reader"
  | 4 => .array .int
  | _ => .int
theorem nmX5 : ∀ a, a < 6 → ∀ b, b < 6 → a ≠ b → (TX5 a).2.1 ≠ (TX5 b).2.1 := by decide +kernel
theorem tyX5_ok : ∀ k, k < 6 → parseFieldDescriptor (TX5 k).2.2.1 = some (tyX5 k) := by decide +kernel
abbrev cX5_init : ByteArray := prog_1_method_1_code
def yX5_init : MethodName := ⟨RX5, "<init>", "()V"⟩
abbrev cX5_earn : ByteArray := prog_1_method_2_code
def yX5_earn : MethodName := ⟨RX5, "earn", "(I)I"⟩
abbrev cX5_load : ByteArray := prog_1_method_3_code
def yX5_load : MethodName := ⟨RX5, "load", "(II)I"⟩
abbrev cX5_set : ByteArray := prog_1_method_4_code
def yX5_set : MethodName := ⟨RX5, "set", "(II)I"⟩
abbrev cX5_step : ByteArray := prog_1_method_5_code
def yX5_step : MethodName := ⟨RX5, "step", "(II)I"⟩
abbrev cX5_go : ByteArray := prog_1_method_6_code
def yX5_go : MethodName := ⟨RX5, "go", "(II)I"⟩
abbrev cX5_home : ByteArray := prog_1_method_7_code
def yX5_home : MethodName := ⟨RX5, "home", "(I)I"⟩
abbrev cX5_grease : ByteArray := prog_1_method_8_code
def yX5_grease : MethodName := ⟨RX5, "grease", "(I)I"⟩
abbrev cX5_mend : ByteArray := prog_1_method_9_code
def yX5_mend : MethodName := ⟨RX5, "mend", "(II)I"⟩
abbrev cX5_append : ByteArray := prog_1_method_10_code
def yX5_append : MethodName := ⟨RX5, "append", "(I)I"⟩
abbrev cX5_clearBuffer : ByteArray := prog_1_method_11_code
def yX5_clearBuffer : MethodName := ⟨RX5, "clearBuffer", "()I"⟩
abbrev cX5_firstError : ByteArray := prog_1_method_12_code
def yX5_firstError : MethodName := ⟨RX5, "firstError", "()I"⟩
abbrev cX5_run : ByteArray := prog_1_method_13_code
def yX5_run : MethodName := ⟨RX5, "run", "()I"⟩
abbrev cX5_undo : ByteArray := prog_1_method_14_code
def yX5_undo : MethodName := ⟨RX5, "undo", "()I"⟩
abbrev cX5_axis : ByteArray := prog_1_method_15_code
def yX5_axis : MethodName := ⟨RX5, "axis", "(II)I"⟩
abbrev cX5_wear : ByteArray := prog_1_method_16_code
def yX5_wear : MethodName := ⟨RX5, "wear", "(II)I"⟩
abbrev cX5_count : ByteArray := prog_1_method_17_code
def yX5_count : MethodName := ⟨RX5, "count", "(I)I"⟩
abbrev cX5_setting : ByteArray := prog_1_method_18_code
def yX5_setting : MethodName := ⟨RX5, "setting", "(I)I"⟩
abbrev cX5_toll : ByteArray := prog_1_method_19_code
def yX5_toll : MethodName := ⟨RX5, "toll", "(IZ)I"⟩
abbrev cX5_slips : ByteArray := prog_1_method_20_code
def yX5_slips : MethodName := ⟨RX5, "slips", "(IZ)I"⟩
abbrev cX5_cost : ByteArray := prog_1_method_21_code
def yX5_cost : MethodName := ⟨RX5, "cost", "(IIZ)I"⟩
abbrev cX5_ifHomed : ByteArray := prog_1_method_22_code
def yX5_ifHomed : MethodName := ⟨RX5, "ifHomed", "(II)I"⟩
abbrev cX5_reach : ByteArray := prog_1_method_23_code
def yX5_reach : MethodName := ⟨RX5, "reach", "(IZ)I"⟩
abbrev cX5_couldBe : ByteArray := prog_1_method_24_code
def yX5_couldBe : MethodName := ⟨RX5, "couldBe", "(I)I"⟩
abbrev cX5_worst : ByteArray := prog_1_method_25_code
def yX5_worst : MethodName := ⟨RX5, "worst", "(II)I"⟩
abbrev cX5_meanToll : ByteArray := prog_1_method_26_code
def yX5_meanToll : MethodName := ⟨RX5, "meanToll", "()D"⟩
abbrev cX5_digest : ByteArray := prog_1_method_27_code
def yX5_digest : MethodName := ⟨RX5, "digest", "()J"⟩
abbrev cX5_gearOf : ByteArray := prog_1_method_28_code
def yX5_gearOf : MethodName := ⟨RX5, "gearOf", "(I)LArmTolls$Gear;"⟩
abbrev cX5_checkSetting : ByteArray := prog_1_method_29_code
def yX5_checkSetting : MethodName := ⟨RX5, "checkSetting", "(I)V"⟩
abbrev cX5_checkTooth : ByteArray := prog_1_method_30_code
def yX5_checkTooth : MethodName := ⟨RX5, "checkTooth", "(I)V"⟩
abbrev cX5_checkPlace : ByteArray := prog_1_method_31_code
def yX5_checkPlace : MethodName := ⟨RX5, "checkPlace", "(I)V"⟩
abbrev cX5_isValueOf : ByteArray := prog_1_method_32_code
def yX5_isValueOf : MethodName := ⟨RX5, "isValueOf", "(II)Z"⟩
abbrev cX5_wayOf : ByteArray := prog_1_method_33_code
def yX5_wayOf : MethodName := ⟨RX5, "wayOf", "(Z)I"⟩
abbrev cX5_canStep : ByteArray := prog_1_method_34_code
def yX5_canStep : MethodName := ⟨RX5, "canStep", "(LArmTolls$Gear;I)Z"⟩
abbrev cX5_canGo : ByteArray := prog_1_method_35_code
def yX5_canGo : MethodName := ⟨RX5, "canGo", "(LArmTolls$Gear;I)Z"⟩
abbrev cX5_canGrease : ByteArray := prog_1_method_36_code
def yX5_canGrease : MethodName := ⟨RX5, "canGrease", "()Z"⟩
abbrev cX5_makeSteps : ByteArray := prog_1_method_37_code
def yX5_makeSteps : MethodName := ⟨RX5, "makeSteps", "(LArmTolls$Gear;II)I"⟩
abbrev cX5_goTo : ByteArray := prog_1_method_38_code
def yX5_goTo : MethodName := ⟨RX5, "goTo", "(LArmTolls$Gear;I)I"⟩
abbrev cX5_makeHomed : ByteArray := prog_1_method_39_code
def yX5_makeHomed : MethodName := ⟨RX5, "makeHomed", "(LArmTolls$Gear;)Z"⟩
abbrev cX5_makeGreased : ByteArray := prog_1_method_40_code
def yX5_makeGreased : MethodName := ⟨RX5, "makeGreased", "(LArmTolls$Gear;)V"⟩
abbrev cX5_cheaperWay : ByteArray := prog_1_method_41_code
def yX5_cheaperWay : MethodName := ⟨RX5, "cheaperWay", "(LArmTolls$Gear;I)I"⟩
abbrev cX5_codeAt : ByteArray := prog_1_method_42_code
def yX5_codeAt : MethodName := ⟨RX5, "codeAt", "(I)I"⟩
abbrev cX5_indexOfSyntaxError : ByteArray := prog_1_method_43_code
def yX5_indexOfSyntaxError : MethodName := ⟨RX5, "indexOfSyntaxError", "()I"⟩
abbrev cX5_isProgram : ByteArray := prog_1_method_44_code
def yX5_isProgram : MethodName := ⟨RX5, "isProgram", "()Z"⟩
abbrev cX5_carryOutBuffer : ByteArray := prog_1_method_45_code
def yX5_carryOutBuffer : MethodName := ⟨RX5, "carryOutBuffer", "()I"⟩
abbrev cX5_carryOutCommand : ByteArray := prog_1_method_46_code
def yX5_carryOutCommand : MethodName := ⟨RX5, "carryOutCommand", "()Z"⟩
abbrev cX5_countOf : ByteArray := prog_1_method_47_code
def yX5_countOf : MethodName := ⟨RX5, "countOf", "(I)I"⟩
abbrev cX5_turnAndSlip : ByteArray := prog_1_method_48_code
def yX5_turnAndSlip : MethodName := ⟨RX5, "turnAndSlip", "(LArmTolls$Gear;I)I"⟩
abbrev cX5_homingFact : ByteArray := prog_1_method_49_code
def yX5_homingFact : MethodName := ⟨RX5, "homingFact", "(LArmTolls$Gear;I)I"⟩
abbrev cX5_reachOf : ByteArray := prog_1_method_50_code
def yX5_reachOf : MethodName := ⟨RX5, "reachOf", "(LArmTolls$Gear;I)I"⟩
abbrev cX5_worstTooth : ByteArray := prog_1_method_51_code
def yX5_worstTooth : MethodName := ⟨RX5, "worstTooth", "(LArmTolls$Gear;I)I"⟩
abbrev cX5_lesserCost : ByteArray := prog_1_method_52_code
def yX5_lesserCost : MethodName := ⟨RX5, "lesserCost", "(LArmTolls$Gear;II)I"⟩
abbrev cX5_mixed : ByteArray := prog_1_method_53_code
def yX5_mixed : MethodName := ⟨RX5, "mixed", "(JJ)J"⟩
abbrev cX5_mixedWithFacts : ByteArray := prog_1_method_54_code
def yX5_mixedWithFacts : MethodName := ⟨RX5, "mixedWithFacts", "(JLArmTolls$Gear;)J"⟩
abbrev cX5_mixedWithForecasts : ByteArray := prog_1_method_55_code
def yX5_mixedWithForecasts : MethodName := ⟨RX5, "mixedWithForecasts", "(JLArmTolls$Gear;)J"⟩
abbrev cX5_bitsOf : ByteArray := prog_1_method_56_code
def yX5_bitsOf : MethodName := ⟨RX5, "bitsOf", "(D)J"⟩
def RX6 : String := "ArmTollsModel"
def TX6 : u_T := fun k => match k with
  | 0 => ("ArmTollsModel", "z", "[I", true)
  | 1 => ("ArmTollsModel", "states", "I", false)
  | 2 => ("ArmTollsModel", "history", "[I", true)
  | 3 => ("ArmTollsModel", "length", "I", false)
  | 4 => ("ArmTollsModel", "text", "[I", true)
  | 5 => ("ArmTollsModel", "thrown", "I", false)
  | 6 => ("ArmTollsModel", "without", "I", false)
  | 7 => ("ArmTollsModel", "parts", "[I", true)
  | 8 => ("ArmTollsModel", "read", "I", false)
  | 9 => ("ArmTollsModel", "number", "I", false)
  | 10 => ("ArmTollsModel", "due", "I", false)
  | 11 => ("ArmTollsModel", "kept", "[I", true)
  | _ => ("ArmTollsModel", "hash", "J", false)
def tyX6 : Nat → FieldType := fun k => match k with
  | 0 => .array .int
  | 1 => .int
  | 2 => .array .int
  | 3 => .int
  | 4 => .array .int
  | 5 => .int
  | 6 => .int
  | 7 => .array .int
  | 8 => .int
  | 9 => .int
  | 10 => .int
  | 11 => .array .int
  | _ => .long
theorem nmX6 : ∀ a, a < 13 → ∀ b, b < 13 → a ≠ b → (TX6 a).2.1 ≠ (TX6 b).2.1 := by decide +kernel
theorem tyX6_ok : ∀ k, k < 13 → parseFieldDescriptor (TX6 k).2.2.1 = some (tyX6 k) := by decide +kernel
abbrev cX6_init : ByteArray := prog_8_method_1_code
def yX6_init : MethodName := ⟨RX6, "<init>", "()V"⟩
abbrev cX6_thrown : ByteArray := prog_8_method_2_code
def yX6_thrown : MethodName := ⟨RX6, "thrown", "()I"⟩
abbrev cX6_within : ByteArray := prog_8_method_3_code
def yX6_within : MethodName := ⟨RX6, "within", "(III)Z"⟩
abbrev cX6_save : ByteArray := prog_8_method_4_code
def yX6_save : MethodName := ⟨RX6, "save", "()V"⟩
abbrev cX6_isAxis : ByteArray := prog_8_method_5_code
def yX6_isAxis : MethodName := ⟨RX6, "isAxis", "(I)Z"⟩
abbrev cX6_isPlace : ByteArray := prog_8_method_6_code
def yX6_isPlace : MethodName := ⟨RX6, "isPlace", "(I)Z"⟩
abbrev cX6_of : ByteArray := prog_8_method_7_code
def yX6_of : MethodName := ⟨RX6, "of", "(II)I"⟩
abbrev cX6_put : ByteArray := prog_8_method_8_code
def yX6_put : MethodName := ⟨RX6, "put", "(III)V"⟩
abbrev cX6_add : ByteArray := prog_8_method_9_code
def yX6_add : MethodName := ⟨RX6, "add", "(III)V"⟩
abbrev cX6_toothFrom : ByteArray := prog_8_method_10_code
def yX6_toothFrom : MethodName := ⟨RX6, "toothFrom", "(IZ)I"⟩
abbrev cX6_next : ByteArray := prog_8_method_11_code
def yX6_next : MethodName := ⟨RX6, "next", "(IZ)I"⟩
abbrev cX6_tollBy : ByteArray := prog_8_method_12_code
def yX6_tollBy : MethodName := ⟨RX6, "tollBy", "(III)I"⟩
abbrev cX6_nextTooth : ByteArray := prog_8_method_13_code
def yX6_nextTooth : MethodName := ⟨RX6, "nextTooth", "(IZ)I"⟩
abbrev cX6_tollNow : ByteArray := prog_8_method_14_code
def yX6_tollNow : MethodName := ⟨RX6, "tollNow", "(IZ)I"⟩
abbrev cX6_slipNow : ByteArray := prog_8_method_15_code
def yX6_slipNow : MethodName := ⟨RX6, "slipNow", "(IZ)I"⟩
abbrev cX6_canStep : ByteArray := prog_8_method_16_code
def yX6_canStep : MethodName := ⟨RX6, "canStep", "(IZ)Z"⟩
abbrev cX6_steps : ByteArray := prog_8_method_17_code
def yX6_steps : MethodName := ⟨RX6, "steps", "(IZ)Z"⟩
abbrev cX6_earn : ByteArray := prog_8_method_18_code
def yX6_earn : MethodName := ⟨RX6, "earn", "(I)I"⟩
abbrev cX6_load : ByteArray := prog_8_method_19_code
def yX6_load : MethodName := ⟨RX6, "load", "(II)I"⟩
abbrev cX6_isSetting : ByteArray := prog_8_method_20_code
def yX6_isSetting : MethodName := ⟨RX6, "isSetting", "(I)Z"⟩
abbrev cX6_isValue : ByteArray := prog_8_method_21_code
def yX6_isValue : MethodName := ⟨RX6, "isValue", "(II)Z"⟩
abbrev cX6_set : ByteArray := prog_8_method_22_code
def yX6_set : MethodName := ⟨RX6, "set", "(II)I"⟩
abbrev cX6_makeSteps : ByteArray := prog_8_method_23_code
def yX6_makeSteps : MethodName := ⟨RX6, "makeSteps", "(IZI)I"⟩
abbrev cX6_step : ByteArray := prog_8_method_24_code
def yX6_step : MethodName := ⟨RX6, "step", "(II)I"⟩
abbrev cX6_costNow : ByteArray := prog_8_method_25_code
def yX6_costNow : MethodName := ⟨RX6, "costNow", "(IIZ)I"⟩
abbrev cX6_goesUp : ByteArray := prog_8_method_26_code
def yX6_goesUp : MethodName := ⟨RX6, "goesUp", "(II)Z"⟩
abbrev cX6_canGo : ByteArray := prog_8_method_27_code
def yX6_canGo : MethodName := ⟨RX6, "canGo", "(II)Z"⟩
abbrev cX6_goes : ByteArray := prog_8_method_28_code
def yX6_goes : MethodName := ⟨RX6, "goes", "(II)I"⟩
abbrev cX6_go : ByteArray := prog_8_method_29_code
def yX6_go : MethodName := ⟨RX6, "go", "(II)I"⟩
abbrev cX6_homes : ByteArray := prog_8_method_30_code
def yX6_homes : MethodName := ⟨RX6, "homes", "(I)I"⟩
abbrev cX6_home : ByteArray := prog_8_method_31_code
def yX6_home : MethodName := ⟨RX6, "home", "(I)I"⟩
abbrev cX6_pay : ByteArray := prog_8_method_32_code
def yX6_pay : MethodName := ⟨RX6, "pay", "(I)V"⟩
abbrev cX6_canGrease : ByteArray := prog_8_method_33_code
def yX6_canGrease : MethodName := ⟨RX6, "canGrease", "()Z"⟩
abbrev cX6_greases : ByteArray := prog_8_method_34_code
def yX6_greases : MethodName := ⟨RX6, "greases", "(I)V"⟩
abbrev cX6_grease : ByteArray := prog_8_method_35_code
def yX6_grease : MethodName := ⟨RX6, "grease", "(I)I"⟩
abbrev cX6_mend : ByteArray := prog_8_method_36_code
def yX6_mend : MethodName := ⟨RX6, "mend", "(II)I"⟩
abbrev cX6_append : ByteArray := prog_8_method_37_code
def yX6_append : MethodName := ⟨RX6, "append", "(I)I"⟩
abbrev cX6_clearBuffer : ByteArray := prog_8_method_38_code
def yX6_clearBuffer : MethodName := ⟨RX6, "clearBuffer", "()I"⟩
abbrev cX6_takesSign : ByteArray := prog_8_method_39_code
def yX6_takesSign : MethodName := ⟨RX6, "takesSign", "(I)Z"⟩
abbrev cX6_takesDigit : ByteArray := prog_8_method_40_code
def yX6_takesDigit : MethodName := ⟨RX6, "takesDigit", "(I)Z"⟩
abbrev cX6_isEnded : ByteArray := prog_8_method_41_code
def yX6_isEnded : MethodName := ⟨RX6, "isEnded", "()Z"⟩
abbrev cX6_endCommand : ByteArray := prog_8_method_42_code
def yX6_endCommand : MethodName := ⟨RX6, "endCommand", "()V"⟩
abbrev cX6_takes : ByteArray := prog_8_method_43_code
def yX6_takes : MethodName := ⟨RX6, "takes", "(I)Z"⟩
abbrev cX6_rightUpTo : ByteArray := prog_8_method_44_code
def yX6_rightUpTo : MethodName := ⟨RX6, "rightUpTo", "()I"⟩
abbrev cX6_firstError : ByteArray := prog_8_method_45_code
def yX6_firstError : MethodName := ⟨RX6, "firstError", "()I"⟩
abbrev cX6_carries : ByteArray := prog_8_method_46_code
def yX6_carries : MethodName := ⟨RX6, "carries", "(I)Z"⟩
abbrev cX6_run : ByteArray := prog_8_method_47_code
def yX6_run : MethodName := ⟨RX6, "run", "()I"⟩
abbrev cX6_undo : ByteArray := prog_8_method_48_code
def yX6_undo : MethodName := ⟨RX6, "undo", "()I"⟩
abbrev cX6_apart : ByteArray := prog_8_method_49_code
def yX6_apart : MethodName := ⟨RX6, "apart", "(II)I"⟩
abbrev cX6_axisNow : ByteArray := prog_8_method_50_code
def yX6_axisNow : MethodName := ⟨RX6, "axisNow", "(II)I"⟩
abbrev cX6_axis : ByteArray := prog_8_method_51_code
def yX6_axis : MethodName := ⟨RX6, "axis", "(II)I"⟩
abbrev cX6_wear : ByteArray := prog_8_method_52_code
def yX6_wear : MethodName := ⟨RX6, "wear", "(II)I"⟩
abbrev cX6_sumOf : ByteArray := prog_8_method_53_code
def yX6_sumOf : MethodName := ⟨RX6, "sumOf", "(I)I"⟩
abbrev cX6_wearOf : ByteArray := prog_8_method_54_code
def yX6_wearOf : MethodName := ⟨RX6, "wearOf", "(Z)I"⟩
abbrev cX6_rightAxes : ByteArray := prog_8_method_55_code
def yX6_rightAxes : MethodName := ⟨RX6, "rightAxes", "()I"⟩
abbrev cX6_counted : ByteArray := prog_8_method_56_code
def yX6_counted : MethodName := ⟨RX6, "counted", "(I)I"⟩
abbrev cX6_count : ByteArray := prog_8_method_57_code
def yX6_count : MethodName := ⟨RX6, "count", "(I)I"⟩
abbrev cX6_setting : ByteArray := prog_8_method_58_code
def yX6_setting : MethodName := ⟨RX6, "setting", "(I)I"⟩
abbrev cX6_toll : ByteArray := prog_8_method_59_code
def yX6_toll : MethodName := ⟨RX6, "toll", "(IZ)I"⟩
abbrev cX6_slips : ByteArray := prog_8_method_60_code
def yX6_slips : MethodName := ⟨RX6, "slips", "(IZ)I"⟩
abbrev cX6_cost : ByteArray := prog_8_method_61_code
def yX6_cost : MethodName := ⟨RX6, "cost", "(IIZ)I"⟩
abbrev cX6_keep : ByteArray := prog_8_method_62_code
def yX6_keep : MethodName := ⟨RX6, "keep", "()V"⟩
abbrev cX6_layBack : ByteArray := prog_8_method_63_code
def yX6_layBack : MethodName := ⟨RX6, "layBack", "()V"⟩
abbrev cX6_homedThen : ByteArray := prog_8_method_64_code
def yX6_homedThen : MethodName := ⟨RX6, "homedThen", "(II)I"⟩
abbrev cX6_ifHomed : ByteArray := prog_8_method_65_code
def yX6_ifHomed : MethodName := ⟨RX6, "ifHomed", "(II)I"⟩
abbrev cX6_reachNow : ByteArray := prog_8_method_66_code
def yX6_reachNow : MethodName := ⟨RX6, "reachNow", "(IZ)I"⟩
abbrev cX6_reach : ByteArray := prog_8_method_67_code
def yX6_reach : MethodName := ⟨RX6, "reach", "(IZ)I"⟩
abbrev cX6_couldBeNow : ByteArray := prog_8_method_68_code
def yX6_couldBeNow : MethodName := ⟨RX6, "couldBeNow", "(I)I"⟩
abbrev cX6_couldBe : ByteArray := prog_8_method_69_code
def yX6_couldBe : MethodName := ⟨RX6, "couldBe", "(I)I"⟩
abbrev cX6_lesserCost : ByteArray := prog_8_method_70_code
def yX6_lesserCost : MethodName := ⟨RX6, "lesserCost", "(II)I"⟩
abbrev cX6_worstNow : ByteArray := prog_8_method_71_code
def yX6_worstNow : MethodName := ⟨RX6, "worstNow", "(II)I"⟩
abbrev cX6_worst : ByteArray := prog_8_method_72_code
def yX6_worst : MethodName := ⟨RX6, "worst", "(II)I"⟩
abbrev cX6_mean : ByteArray := prog_8_method_73_code
def yX6_mean : MethodName := ⟨RX6, "mean", "()D"⟩
abbrev cX6_meanToll : ByteArray := prog_8_method_74_code
def yX6_meanToll : MethodName := ⟨RX6, "meanToll", "()D"⟩
abbrev cX6_mix : ByteArray := prog_8_method_75_code
def yX6_mix : MethodName := ⟨RX6, "mix", "(J)V"⟩
abbrev cX6_mixAxis : ByteArray := prog_8_method_76_code
def yX6_mixAxis : MethodName := ⟨RX6, "mixAxis", "(I)V"⟩
abbrev cX6_digest : ByteArray := prog_8_method_77_code
def yX6_digest : MethodName := ⟨RX6, "digest", "()J"⟩
def RJxe99ae : String := "java/lang/Double"
def TJxe99ae : u_T := fun k => match k with
  | _ => ("", "", "", false)
def tyJxe99ae : Nat → FieldType := fun k => match k with
  | _ => .int
theorem nmJxe99ae : ∀ a, a < 0 → ∀ b, b < 0 → a ≠ b → (TJxe99ae a).2.1 ≠ (TJxe99ae b).2.1 := by decide +kernel
theorem tyJxe99ae_ok : ∀ k, k < 0 → parseFieldDescriptor (TJxe99ae k).2.2.1 = some (tyJxe99ae k) := by decide +kernel
abbrev cJxe99ae_isNaN_b9ae7 : ByteArray := prog_9_method_6_code
def yJxe99ae_isNaN_b9ae7 : MethodName := ⟨RJxe99ae, "isNaN", "(D)Z"⟩
abbrev cJxe99ae_doubleToLongBits_ccdee : ByteArray := prog_9_method_23_code
def yJxe99ae_doubleToLongBits_ccdee : MethodName := ⟨RJxe99ae, "doubleToLongBits", "(D)J"⟩
def RJ9 : String := "java/lang/Math"
def TJ9 : u_T := fun k => match k with
  | _ => ("", "", "", false)
def tyJ9 : Nat → FieldType := fun k => match k with
  | _ => .int
theorem nmJ9 : ∀ a, a < 0 → ∀ b, b < 0 → a ≠ b → (TJ9 a).2.1 ≠ (TJ9 b).2.1 := by decide +kernel
theorem tyJ9_ok : ∀ k, k < 0 → parseFieldDescriptor (TJ9 k).2.2.1 = some (tyJ9 k) := by decide +kernel
abbrev cJ9_floorMod_7cf53 : ByteArray := prog_14_method_50_code
def yJ9_floorMod_7cf53 : MethodName := ⟨RJ9, "floorMod", "(II)I"⟩
abbrev cJ9_max_7cf53 : ByteArray := prog_14_method_65_code
def yJ9_max_7cf53 : MethodName := ⟨RJ9, "max", "(II)I"⟩
abbrev cJ9_min_7cf53 : ByteArray := prog_14_method_69_code
def yJ9_min_7cf53 : MethodName := ⟨RJ9, "min", "(II)I"⟩
def RJ0 : String := "java/lang/String"
def TJ0 : u_T := fun k => match k with
  | _ => ("", "", "", false)
def tyJ0 : Nat → FieldType := fun k => match k with
  | _ => .int
theorem nmJ0 : ∀ a, a < 0 → ∀ b, b < 0 → a ≠ b → (TJ0 a).2.1 ≠ (TJ0 b).2.1 := by decide +kernel
theorem tyJ0_ok : ∀ k, k < 0 → parseFieldDescriptor (TJ0 k).2.2.1 = some (tyJ0 k) := by decide +kernel
def RJ10 : String := "java/lang/System"
def TJ10 : u_T := fun k => match k with
  | _ => ("", "", "", false)
def tyJ10 : Nat → FieldType := fun k => match k with
  | _ => .int
theorem nmJ10 : ∀ a, a < 0 → ∀ b, b < 0 → a ≠ b → (TJ10 a).2.1 ≠ (TJ10 b).2.1 := by decide +kernel
theorem tyJ10_ok : ∀ k, k < 0 → parseFieldDescriptor (TJ10 k).2.2.1 = some (tyJ10 k) := by decide +kernel
def RL : String := "ArmTollsLaw"
abbrev cL_earn : ByteArray := method_3_code
def yL_earn : MethodName := ⟨RL, "earn", "(LArmTolls;I[J)I"⟩
abbrev cL_load : ByteArray := method_4_code
def yL_load : MethodName := ⟨RL, "load", "(LArmTolls;II[J)I"⟩
abbrev cL_set : ByteArray := method_5_code
def yL_set : MethodName := ⟨RL, "set", "(LArmTolls;II[J)I"⟩
abbrev cL_step : ByteArray := method_6_code
def yL_step : MethodName := ⟨RL, "step", "(LArmTolls;II[J)I"⟩
abbrev cL_go : ByteArray := method_7_code
def yL_go : MethodName := ⟨RL, "go", "(LArmTolls;II[J)I"⟩
abbrev cL_home : ByteArray := method_8_code
def yL_home : MethodName := ⟨RL, "home", "(LArmTolls;I[J)I"⟩
abbrev cL_grease : ByteArray := method_9_code
def yL_grease : MethodName := ⟨RL, "grease", "(LArmTolls;I[J)I"⟩
abbrev cL_mend : ByteArray := method_10_code
def yL_mend : MethodName := ⟨RL, "mend", "(LArmTolls;II[J)I"⟩
abbrev cL_append : ByteArray := method_11_code
def yL_append : MethodName := ⟨RL, "append", "(LArmTolls;I[J)I"⟩
abbrev cL_run : ByteArray := method_12_code
def yL_run : MethodName := ⟨RL, "run", "(LArmTolls;[J)I"⟩
abbrev cL_undo : ByteArray := method_13_code
def yL_undo : MethodName := ⟨RL, "undo", "(LArmTolls;[J)I"⟩
abbrev cL_axis : ByteArray := method_14_code
def yL_axis : MethodName := ⟨RL, "axis", "(LArmTolls;II[J)I"⟩
abbrev cL_wear : ByteArray := method_15_code
def yL_wear : MethodName := ⟨RL, "wear", "(LArmTolls;II[J)I"⟩
abbrev cL_count : ByteArray := method_16_code
def yL_count : MethodName := ⟨RL, "count", "(LArmTolls;I[J)I"⟩
abbrev cL_setting : ByteArray := method_17_code
def yL_setting : MethodName := ⟨RL, "setting", "(LArmTolls;I[J)I"⟩
abbrev cL_toll : ByteArray := method_18_code
def yL_toll : MethodName := ⟨RL, "toll", "(LArmTolls;IZ[J)I"⟩
abbrev cL_slips : ByteArray := method_19_code
def yL_slips : MethodName := ⟨RL, "slips", "(LArmTolls;IZ[J)I"⟩
abbrev cL_cost : ByteArray := method_20_code
def yL_cost : MethodName := ⟨RL, "cost", "(LArmTolls;IIZ[J)I"⟩
abbrev cL_ifHomed : ByteArray := method_21_code
def yL_ifHomed : MethodName := ⟨RL, "ifHomed", "(LArmTolls;II[J)I"⟩
abbrev cL_reach : ByteArray := method_22_code
def yL_reach : MethodName := ⟨RL, "reach", "(LArmTolls;IZ[J)I"⟩
abbrev cL_couldBe : ByteArray := method_23_code
def yL_couldBe : MethodName := ⟨RL, "couldBe", "(LArmTolls;I[J)I"⟩
abbrev cL_worst : ByteArray := method_24_code
def yL_worst : MethodName := ⟨RL, "worst", "(LArmTolls;II[J)I"⟩
abbrev cL_law : ByteArray := code
def yL_law : MethodName := ⟨RL, "law", "([I)Z"⟩
abbrev vwCl : List vw_C := [(RX0, TX0, 12), (RX1, TX1, 3), (RX2, TX2, 4), (RX3, TX3, 6), (RX4, TX4, 4), (RX5, TX5, 6), (RX6, TX6, 13)]
end
section
/-! one list of words for all methods: the good ones of the tables -/
def AW : List Cond := lw_tbl.filter goodWord
theorem aw {w : Cond} (i : Nat) (h : lw_tbl[i]? = some w) (g : goodWord w = true) : w ∈ AW := List.mem_filter.mpr ⟨List.mem_of_getElem? h, g⟩
theorem aw0 {w : Cond} (i : Nat) (h : (k2_sels lw_privs)[i]? = some w) (g : goodWord w = true) : w ∈ AW := List.mem_filter.mpr ⟨List.mem_append_left _ (List.mem_of_getElem? h), g⟩
theorem awT {w : Cond} (h : w ∈ tables_1) (g : goodWord w = true) : w ∈ AW := List.mem_filter.mpr ⟨List.mem_append_right _ h, g⟩
theorem aw1 {w : Cond} (i : Nat) (h : tables_1_1[i]? = some w) (g : goodWord w = true) : w ∈ AW := awT (List.mem_append_left _ (List.mem_of_getElem? h)) g
theorem aw2 {w : Cond} (i : Nat) (h : tables_1_2[i]? = some w) (g : goodWord w = true) : w ∈ AW := awT (List.mem_append_right _ (List.mem_append_left _ (List.mem_of_getElem? h))) g
theorem aw3 {w : Cond} (i : Nat) (h : tables_1_3[i]? = some w) (g : goodWord w = true) : w ∈ AW := awT (List.mem_append_right _ (List.mem_append_right _ (List.mem_append_left _ (List.mem_of_getElem? h)))) g
theorem aw4 {w : Cond} (i : Nat) (h : tables_1_4[i]? = some w) (g : goodWord w = true) : w ∈ AW := awT (List.mem_append_right _ (List.mem_append_right _ (List.mem_append_right _ (List.mem_append_left _ (List.mem_of_getElem? h))))) g
theorem aw5 {w : Cond} (i : Nat) (h : tables_1_5[i]? = some w) (g : goodWord w = true) : w ∈ AW := awT (List.mem_append_right _ (List.mem_append_right _ (List.mem_append_right _ (List.mem_append_right _ (List.mem_of_getElem? h))))) g
theorem aw_good {w : Cond} (h : w ∈ AW) : (w.onTables && w.keeps) = true ∨ ∃ ty, w = .arrayClass ty := good_of_word (List.mem_filter.mp h).2
theorem aw_all {ws : List Cond} (h : ws.all (fun w => decide (w ∈ lw_tbl) && goodWord w) = true) : ∀ w ∈ ws, w ∈ AW := by
  intro w hw
  have h1 := List.all_eq_true.mp h w hw
  simp only [Bool.and_eq_true, decide_eq_true_eq] at h1
  exact List.mem_filter.mpr ⟨h1.1, h1.2⟩
theorem q_0 : Cond.initialized RL ∈ AW := aw1 0 (by decide +kernel) (by decide +kernel)
theorem q_1 : Cond.initialized RX5 ∈ AW := aw1 1 (by decide +kernel) (by decide +kernel)
theorem q_2 : Cond.initialized RX4 ∈ AW := aw1 2 (by decide +kernel) (by decide +kernel)
theorem q_3 : Cond.initialized RX3 ∈ AW := aw1 3 (by decide +kernel) (by decide +kernel)
theorem q_4 : Cond.initialized RX0 ∈ AW := aw1 4 (by decide +kernel) (by decide +kernel)
theorem q_5 : Cond.initialized RX1 ∈ AW := aw1 5 (by decide +kernel) (by decide +kernel)
theorem q_6 : Cond.initialized RX2 ∈ AW := aw1 6 (by decide +kernel) (by decide +kernel)
theorem q_7 : Cond.initialized RX6 ∈ AW := aw1 7 (by decide +kernel) (by decide +kernel)
theorem q_8 : Cond.initialized "java/lang/Throwable" ∈ AW := aw1 8 (by decide +kernel) (by decide +kernel)
theorem q_9 : Cond.initialized "java/lang/Exception" ∈ AW := aw1 9 (by decide +kernel) (by decide +kernel)
theorem q_10 : Cond.initialized "java/lang/RuntimeException" ∈ AW := aw1 10 (by decide +kernel) (by decide +kernel)
theorem q_11 : Cond.initialized "java/lang/IllegalArgumentException" ∈ AW := aw1 11 (by decide +kernel) (by decide +kernel)
theorem q_12 : Cond.initialized "java/lang/IllegalStateException" ∈ AW := aw1 12 (by decide +kernel) (by decide +kernel)
theorem q_13 : Cond.initialized RJ9 ∈ AW := aw1 13 (by decide +kernel) (by decide +kernel)
theorem q_14 : Cond.initialized RJ10 ∈ AW := aw1 14 (by decide +kernel) (by decide +kernel)
theorem q_15 : Cond.initialized "java/lang/IndexOutOfBoundsException" ∈ AW := aw1 15 (by decide +kernel) (by decide +kernel)
theorem q_16 : Cond.initialized RJxe99ae ∈ AW := aw1 16 (by decide +kernel) (by decide +kernel)
theorem q_17 : Cond.classLink RL 8 RX5 ∈ AW := aw1 17 (by decide +kernel) (by decide +kernel)
theorem q_18 : Cond.instantiable RX5 6 ∈ AW := aw1 18 (by decide +kernel) (by decide +kernel)
theorem q_19 : Cond.methodLink RL 86 yX5_init ∈ AW := aw1 19 (by decide +kernel) (by decide +kernel)
theorem q_20 : Cond.instanceMethod yX5_init ∈ AW := aw1 20 (by decide +kernel) (by decide +kernel)
theorem q_21 : Cond.code yX5_init cX5_init 1 none ∈ AW := aw1 21 (by decide +kernel) (by decide +kernel)
theorem q_22 : Cond.methodLink RX5 1 ⟨"java/lang/Object", "<init>", "()V"⟩ ∈ AW := aw1 22 (by decide +kernel) (by decide +kernel)
theorem q_23 : Cond.instanceMethod ⟨"java/lang/Object", "<init>", "()V"⟩ ∈ AW := aw1 23 (by decide +kernel) (by decide +kernel)
theorem q_24 : Cond.code ⟨"java/lang/Object", "<init>", "()V"⟩ object_method_1_code 1 none ∈ AW := aw1 24 (by decide +kernel) (by decide +kernel)
theorem q_25 : Cond.classLink RX5 7 RX4 ∈ AW := aw1 25 (by decide +kernel) (by decide +kernel)
theorem q_26 : Cond.instantiable RX4 4 ∈ AW := aw1 26 (by decide +kernel) (by decide +kernel)
theorem q_27 : Cond.methodLink RX5 9 yX4_init ∈ AW := aw1 27 (by decide +kernel) (by decide +kernel)
theorem q_28 : Cond.instanceMethod yX4_init ∈ AW := aw1 28 (by decide +kernel) (by decide +kernel)
theorem q_29 : Cond.code yX4_init cX4_init 2 none ∈ AW := aw1 29 (by decide +kernel) (by decide +kernel)
theorem q_30 : Cond.methodLink RX4 3 ⟨"java/lang/Object", "<init>", "()V"⟩ ∈ AW := aw1 30 (by decide +kernel) (by decide +kernel)
theorem q_31 : Cond.classLink RX4 9 RX3 ∈ AW := aw1 31 (by decide +kernel) (by decide +kernel)
theorem q_32 : Cond.instantiable RX3 6 ∈ AW := aw1 32 (by decide +kernel) (by decide +kernel)
theorem q_34 : Cond.instanceMethod yX3_init ∈ AW := aw1 34 (by decide +kernel) (by decide +kernel)
theorem q_35 : Cond.code yX3_init cX3_init 1 none ∈ AW := aw1 35 (by decide +kernel) (by decide +kernel)
theorem q_36 : Cond.methodLink RX3 1 ⟨"java/lang/Object", "<init>", "()V"⟩ ∈ AW := aw1 36 (by decide +kernel) (by decide +kernel)
theorem q_37 : Cond.fieldLink RX3 7 "ArmTolls$Rules" "wearByStep" "I" ∈ AW := aw1 37 (by decide +kernel) (by decide +kernel)
theorem q_38 : Cond.fieldLink RX0 84 "ArmTolls$Rules" "wearByStep" "I" ∈ AW := aw1 38 (by decide +kernel) (by decide +kernel)
theorem q_39 : Cond.fieldLink RX3 13 "ArmTolls$Rules" "wearPerToll" "I" ∈ AW := aw1 39 (by decide +kernel) (by decide +kernel)
theorem q_40 : Cond.fieldLink RX0 58 "ArmTolls$Rules" "wearPerToll" "I" ∈ AW := aw1 40 (by decide +kernel) (by decide +kernel)
theorem q_41 : Cond.fieldLink RX3 16 "ArmTolls$Rules" "wearThatSlips" "I" ∈ AW := aw1 41 (by decide +kernel) (by decide +kernel)
theorem q_42 : Cond.fieldLink RX0 81 "ArmTolls$Rules" "wearThatSlips" "I" ∈ AW := aw1 42 (by decide +kernel) (by decide +kernel)
theorem q_43 : Cond.fieldLink RX5 316 "ArmTolls$Rules" "wearThatSlips" "I" ∈ AW := aw1 43 (by decide +kernel) (by decide +kernel)
theorem q_44 : Cond.fieldLink RX3 19 "ArmTolls$Rules" "mendingCost" "I" ∈ AW := aw1 44 (by decide +kernel) (by decide +kernel)
theorem q_45 : Cond.fieldLink RX5 147 "ArmTolls$Rules" "mendingCost" "I" ∈ AW := aw1 45 (by decide +kernel) (by decide +kernel)
theorem q_46 : Cond.fieldLink RX3 22 "ArmTolls$Rules" "greasedSteps" "I" ∈ AW := aw1 46 (by decide +kernel) (by decide +kernel)
theorem q_47 : Cond.fieldLink RX5 282 "ArmTolls$Rules" "greasedSteps" "I" ∈ AW := aw1 47 (by decide +kernel) (by decide +kernel)
theorem q_48 : Cond.fieldLink RX3 25 "ArmTolls$Rules" "greasingCost" "I" ∈ AW := aw1 48 (by decide +kernel) (by decide +kernel)
theorem q_49 : Cond.fieldLink RX5 270 "ArmTolls$Rules" "greasingCost" "I" ∈ AW := aw1 49 (by decide +kernel) (by decide +kernel)
theorem q_63 : Cond.classLink RX4 18 RX0 ∈ AW := aw1 63 (by decide +kernel) (by decide +kernel)
theorem q_65 : Cond.instantiable RX0 12 ∈ AW := aw1 65 (by decide +kernel) (by decide +kernel)
theorem q_67 : Cond.instanceMethod yX0_init ∈ AW := aw1 67 (by decide +kernel) (by decide +kernel)
theorem q_68 : Cond.code yX0_init cX0_init 1 none ∈ AW := aw1 68 (by decide +kernel) (by decide +kernel)
theorem q_69 : Cond.methodLink RX0 3 ⟨"java/lang/Object", "<init>", "()V"⟩ ∈ AW := aw1 69 (by decide +kernel) (by decide +kernel)
theorem q_70 : Cond.fieldLink RX0 9 "ArmTolls$Gear" "wears" "[I" ∈ AW := aw1 70 (by decide +kernel) (by decide +kernel)
theorem q_71 : Cond.fieldLink RX0 15 "ArmTolls$Gear" "place" "I" ∈ AW := aw1 71 (by decide +kernel) (by decide +kernel)
theorem q_72 : Cond.fieldLink RX4 43 "ArmTolls$Gear" "place" "I" ∈ AW := aw1 72 (by decide +kernel) (by decide +kernel)
theorem q_73 : Cond.fieldLink RX5 328 "ArmTolls$Gear" "place" "I" ∈ AW := aw1 73 (by decide +kernel) (by decide +kernel)
theorem q_74 : Cond.fieldLink RX0 19 "ArmTolls$Gear" "believed" "I" ∈ AW := aw1 74 (by decide +kernel) (by decide +kernel)
theorem q_75 : Cond.fieldLink RX4 46 "ArmTolls$Gear" "believed" "I" ∈ AW := aw1 75 (by decide +kernel) (by decide +kernel)
theorem q_76 : Cond.fieldLink RX5 264 "ArmTolls$Gear" "believed" "I" ∈ AW := aw1 76 (by decide +kernel) (by decide +kernel)
theorem q_77 : Cond.fieldLink RX0 22 "ArmTolls$Gear" "load" "I" ∈ AW := aw1 77 (by decide +kernel) (by decide +kernel)
theorem q_78 : Cond.fieldLink RX5 71 "ArmTolls$Gear" "load" "I" ∈ AW := aw1 78 (by decide +kernel) (by decide +kernel)
theorem q_79 : Cond.fieldLink RX0 25 "ArmTolls$Gear" "way" "I" ∈ AW := aw1 79 (by decide +kernel) (by decide +kernel)
theorem q_80 : Cond.fieldLink RX0 28 "ArmTolls$Gear" "slack" "I" ∈ AW := aw1 80 (by decide +kernel) (by decide +kernel)
theorem q_81 : Cond.fieldLink RX0 31 "ArmTolls$Gear" "greased" "I" ∈ AW := aw1 81 (by decide +kernel) (by decide +kernel)
theorem q_82 : Cond.fieldLink RX5 285 "ArmTolls$Gear" "greased" "I" ∈ AW := aw1 82 (by decide +kernel) (by decide +kernel)
theorem q_83 : Cond.fieldLink RX0 34 "ArmTolls$Gear" "steps" "I" ∈ AW := aw1 83 (by decide +kernel) (by decide +kernel)
theorem q_84 : Cond.fieldLink RX5 124 "ArmTolls$Gear" "steps" "I" ∈ AW := aw1 84 (by decide +kernel) (by decide +kernel)
theorem q_85 : Cond.fieldLink RX0 37 "ArmTolls$Gear" "slips" "I" ∈ AW := aw1 85 (by decide +kernel) (by decide +kernel)
theorem q_86 : Cond.fieldLink RX0 40 "ArmTolls$Gear" "tolls" "I" ∈ AW := aw1 86 (by decide +kernel) (by decide +kernel)
theorem q_87 : Cond.fieldLink RX0 43 "ArmTolls$Gear" "turns" "I" ∈ AW := aw1 87 (by decide +kernel) (by decide +kernel)
theorem q_88 : Cond.fieldLink RX0 46 "ArmTolls$Gear" "homings" "I" ∈ AW := aw1 88 (by decide +kernel) (by decide +kernel)
theorem q_89 : Cond.fieldLink RX5 277 "ArmTolls$Gear" "homings" "I" ∈ AW := aw1 89 (by decide +kernel) (by decide +kernel)
theorem q_115 : Cond.arrayClass .int ∈ AW := aw1 115 (by decide +kernel) (by decide +kernel)
theorem q_116 : Cond.fieldLink RX4 12 "ArmTolls$State" "rules" "LArmTolls$Rules;" ∈ AW := aw1 116 (by decide +kernel) (by decide +kernel)
theorem q_117 : Cond.fieldLink RX5 84 "ArmTolls$State" "rules" "LArmTolls$Rules;" ∈ AW := aw1 117 (by decide +kernel) (by decide +kernel)
theorem q_118 : Cond.fieldLink RX4 20 "ArmTolls$State" "gears" "[LArmTolls$Gear;" ∈ AW := aw1 118 (by decide +kernel) (by decide +kernel)
theorem q_119 : Cond.fieldLink RX4 24 "ArmTolls$State" "purse" "I" ∈ AW := aw1 119 (by decide +kernel) (by decide +kernel)
theorem q_120 : Cond.fieldLink RX5 52 "ArmTolls$State" "purse" "I" ∈ AW := aw1 120 (by decide +kernel) (by decide +kernel)
theorem q_121 : Cond.fieldLink RX4 28 "ArmTolls$State" "careCosts" "I" ∈ AW := aw1 121 (by decide +kernel) (by decide +kernel)
theorem q_122 : Cond.fieldLink RX5 310 "ArmTolls$State" "careCosts" "I" ∈ AW := aw1 122 (by decide +kernel) (by decide +kernel)
theorem q_132 : Cond.classLink RX5 16 RX1 ∈ AW := aw1 132 (by decide +kernel) (by decide +kernel)
theorem q_133 : Cond.instantiable RX1 3 ∈ AW := aw1 133 (by decide +kernel) (by decide +kernel)
theorem q_134 : Cond.methodLink RX5 18 yX1_init ∈ AW := aw1 134 (by decide +kernel) (by decide +kernel)
theorem q_135 : Cond.instanceMethod yX1_init ∈ AW := aw1 135 (by decide +kernel) (by decide +kernel)
theorem q_136 : Cond.code yX1_init cX1_init 2 none ∈ AW := aw1 136 (by decide +kernel) (by decide +kernel)
theorem q_137 : Cond.methodLink RX1 3 ⟨"java/lang/Object", "<init>", "()V"⟩ ∈ AW := aw1 137 (by decide +kernel) (by decide +kernel)
theorem q_138 : Cond.classLink RX1 9 RX4 ∈ AW := aw1 138 (by decide +kernel) (by decide +kernel)
theorem q_140 : Cond.methodLink RX1 24 yX4_init ∈ AW := aw1 140 (by decide +kernel) (by decide +kernel)
theorem q_141 : Cond.fieldLink RX1 11 "ArmTolls$History" "rows" "[LArmTolls$State;" ∈ AW := aw1 141 (by decide +kernel) (by decide +kernel)
theorem q_142 : Cond.fieldLink RX1 17 "ArmTolls$History" "newest" "I" ∈ AW := aw1 142 (by decide +kernel) (by decide +kernel)
theorem q_143 : Cond.fieldLink RX1 21 "ArmTolls$History" "kept" "I" ∈ AW := aw1 143 (by decide +kernel) (by decide +kernel)
theorem q_144 : Cond.fieldLink RX5 174 "ArmTolls$History" "kept" "I" ∈ AW := aw1 144 (by decide +kernel) (by decide +kernel)
theorem q_152 : Cond.classLink RX5 23 RX0 ∈ AW := aw1 152 (by decide +kernel) (by decide +kernel)
theorem q_154 : Cond.classLink RX5 30 RX2 ∈ AW := aw1 154 (by decide +kernel) (by decide +kernel)
theorem q_155 : Cond.instantiable RX2 4 ∈ AW := aw1 155 (by decide +kernel) (by decide +kernel)
theorem q_157 : Cond.instanceMethod yX2_init ∈ AW := aw1 157 (by decide +kernel) (by decide +kernel)
theorem q_158 : Cond.code yX2_init cX2_init 1 none ∈ AW := aw1 158 (by decide +kernel) (by decide +kernel)
theorem q_159 : Cond.methodLink RX2 3 ⟨"java/lang/Object", "<init>", "()V"⟩ ∈ AW := aw1 159 (by decide +kernel) (by decide +kernel)
theorem q_160 : Cond.fieldLink RX2 11 "ArmTolls$Reader" "phase" "I" ∈ AW := aw1 160 (by decide +kernel) (by decide +kernel)
theorem q_161 : Cond.fieldLink RX2 15 "ArmTolls$Reader" "axis" "I" ∈ AW := aw1 161 (by decide +kernel) (by decide +kernel)
theorem q_162 : Cond.fieldLink RX5 301 "ArmTolls$Reader" "axis" "I" ∈ AW := aw1 162 (by decide +kernel) (by decide +kernel)
theorem q_163 : Cond.fieldLink RX2 18 "ArmTolls$Reader" "kind" "I" ∈ AW := aw1 163 (by decide +kernel) (by decide +kernel)
theorem q_164 : Cond.fieldLink RX5 304 "ArmTolls$Reader" "kind" "I" ∈ AW := aw1 164 (by decide +kernel) (by decide +kernel)
theorem q_165 : Cond.fieldLink RX2 21 "ArmTolls$Reader" "number" "I" ∈ AW := aw1 165 (by decide +kernel) (by decide +kernel)
theorem q_166 : Cond.fieldLink RX5 307 "ArmTolls$Reader" "number" "I" ∈ AW := aw1 166 (by decide +kernel) (by decide +kernel)
theorem q_176 : Cond.fieldLink RX5 10 "ArmTolls" "now" "LArmTolls$State;" ∈ AW := aw1 176 (by decide +kernel) (by decide +kernel)
theorem q_177 : Cond.fieldLink RX5 19 "ArmTolls" "history" "LArmTolls$History;" ∈ AW := aw1 177 (by decide +kernel) (by decide +kernel)
theorem q_178 : Cond.fieldLink RX5 26 "ArmTolls" "trial" "LArmTolls$Gear;" ∈ AW := aw1 178 (by decide +kernel) (by decide +kernel)
theorem q_179 : Cond.fieldLink RX5 33 "ArmTolls" "reader" "LArmTolls$Reader;" ∈ AW := aw1 179 (by decide +kernel) (by decide +kernel)
theorem q_180 : Cond.fieldLink RX5 37 "ArmTolls" "buffer" "[I" ∈ AW := aw1 180 (by decide +kernel) (by decide +kernel)
theorem q_181 : Cond.fieldLink RX5 41 "ArmTolls" "length" "I" ∈ AW := aw1 181 (by decide +kernel) (by decide +kernel)
theorem q_195 : Cond.methodLink RL 124 yX5_clearBuffer ∈ AW := aw1 195 (by decide +kernel) (by decide +kernel)
theorem q_196 : Cond.instanceMethod yX5_clearBuffer ∈ AW := aw1 196 (by decide +kernel) (by decide +kernel)
theorem q_197 : Cond.selects RX5 yX5_clearBuffer yX5_clearBuffer ∈ AW := aw1 197 (by decide +kernel) (by decide +kernel)
theorem q_198 : Cond.code yX5_clearBuffer cX5_clearBuffer 2 (some .int) ∈ AW := aw1 198 (by decide +kernel) (by decide +kernel)
theorem q_199 : Cond.methodLink RL 128 yX5_firstError ∈ AW := aw1 199 (by decide +kernel) (by decide +kernel)
theorem q_200 : Cond.instanceMethod yX5_firstError ∈ AW := aw1 200 (by decide +kernel) (by decide +kernel)
theorem q_201 : Cond.selects RX5 yX5_firstError yX5_firstError ∈ AW := aw1 201 (by decide +kernel) (by decide +kernel)
theorem q_202 : Cond.code yX5_firstError cX5_firstError 1 (some .int) ∈ AW := aw1 202 (by decide +kernel) (by decide +kernel)
theorem q_203 : Cond.methodLink RX5 162 yX5_indexOfSyntaxError ∈ AW := aw1 203 (by decide +kernel) (by decide +kernel)
theorem q_205 : Cond.instanceMethod yX5_indexOfSyntaxError ∈ AW := aw1 205 (by decide +kernel) (by decide +kernel)
theorem q_206 : Cond.code yX5_indexOfSyntaxError cX5_indexOfSyntaxError 2 (some .int) ∈ AW := aw1 206 (by decide +kernel) (by decide +kernel)
theorem q_207 : Cond.methodLink RX5 288 yX2_begin ∈ AW := aw1 207 (by decide +kernel) (by decide +kernel)
theorem q_208 : Cond.instanceMethod yX2_begin ∈ AW := aw1 208 (by decide +kernel) (by decide +kernel)
theorem q_209 : Cond.selects RX2 yX2_begin yX2_begin ∈ AW := aw1 209 (by decide +kernel) (by decide +kernel)
theorem q_210 : Cond.code yX2_begin cX2_begin 1 none ∈ AW := aw1 210 (by decide +kernel) (by decide +kernel)
theorem q_211 : Cond.methodLink RX5 244 yX5_codeAt ∈ AW := aw1 211 (by decide +kernel) (by decide +kernel)
theorem q_213 : Cond.instanceMethod yX5_codeAt ∈ AW := aw1 213 (by decide +kernel) (by decide +kernel)
theorem q_214 : Cond.code yX5_codeAt cX5_codeAt 2 (some .int) ∈ AW := aw1 214 (by decide +kernel) (by decide +kernel)
theorem q_215 : Cond.methodLink RX5 291 yX2_take ∈ AW := aw1 215 (by decide +kernel) (by decide +kernel)
theorem q_216 : Cond.instanceMethod yX2_take ∈ AW := aw1 216 (by decide +kernel) (by decide +kernel)
theorem q_217 : Cond.selects RX2 yX2_take yX2_take ∈ AW := aw1 217 (by decide +kernel) (by decide +kernel)
theorem q_218 : Cond.code yX2_take cX2_take 2 (some .boolean) ∈ AW := aw1 218 (by decide +kernel) (by decide +kernel)
theorem q_219 : Cond.methodLink RX2 24 yX2_takeLetter ∈ AW := aw1 219 (by decide +kernel) (by decide +kernel)
theorem q_220 : Cond.instanceMethod yX2_takeLetter ∈ AW := aw1 220 (by decide +kernel) (by decide +kernel)
theorem q_221 : Cond.selects RX2 yX2_takeLetter yX2_takeLetter ∈ AW := aw1 221 (by decide +kernel) (by decide +kernel)
theorem q_222 : Cond.code yX2_takeLetter cX2_takeLetter 2 (some .boolean) ∈ AW := aw1 222 (by decide +kernel) (by decide +kernel)
theorem q_223 : Cond.methodLink RX2 28 yX2_takeKind ∈ AW := aw1 223 (by decide +kernel) (by decide +kernel)
theorem q_224 : Cond.instanceMethod yX2_takeKind ∈ AW := aw1 224 (by decide +kernel) (by decide +kernel)
theorem q_225 : Cond.selects RX2 yX2_takeKind yX2_takeKind ∈ AW := aw1 225 (by decide +kernel) (by decide +kernel)
theorem q_226 : Cond.code yX2_takeKind cX2_takeKind 3 (some .boolean) ∈ AW := aw1 226 (by decide +kernel) (by decide +kernel)
theorem q_227 : Cond.methodLink RX2 31 yX2_takeFirstDigit ∈ AW := aw1 227 (by decide +kernel) (by decide +kernel)
theorem q_228 : Cond.instanceMethod yX2_takeFirstDigit ∈ AW := aw1 228 (by decide +kernel) (by decide +kernel)
theorem q_229 : Cond.selects RX2 yX2_takeFirstDigit yX2_takeFirstDigit ∈ AW := aw1 229 (by decide +kernel) (by decide +kernel)
theorem q_230 : Cond.code yX2_takeFirstDigit cX2_takeFirstDigit 3 (some .boolean) ∈ AW := aw1 230 (by decide +kernel) (by decide +kernel)
theorem q_231 : Cond.methodLink RX2 34 yX2_takeSecondDigit ∈ AW := aw1 231 (by decide +kernel) (by decide +kernel)
theorem q_232 : Cond.instanceMethod yX2_takeSecondDigit ∈ AW := aw1 232 (by decide +kernel) (by decide +kernel)
theorem q_233 : Cond.selects RX2 yX2_takeSecondDigit yX2_takeSecondDigit ∈ AW := aw1 233 (by decide +kernel) (by decide +kernel)
theorem q_234 : Cond.code yX2_takeSecondDigit cX2_takeSecondDigit 4 (some .boolean) ∈ AW := aw1 234 (by decide +kernel) (by decide +kernel)
theorem q_235 : Cond.methodLink RX2 37 yX2_takeSeparator ∈ AW := aw1 235 (by decide +kernel) (by decide +kernel)
theorem q_236 : Cond.instanceMethod yX2_takeSeparator ∈ AW := aw1 236 (by decide +kernel) (by decide +kernel)
theorem q_237 : Cond.selects RX2 yX2_takeSeparator yX2_takeSeparator ∈ AW := aw1 237 (by decide +kernel) (by decide +kernel)
theorem q_238 : Cond.code yX2_takeSeparator cX2_takeSeparator 2 (some .boolean) ∈ AW := aw1 238 (by decide +kernel) (by decide +kernel)
theorem q_239 : Cond.methodLink RL 174 yX5_meanToll ∈ AW := aw1 239 (by decide +kernel) (by decide +kernel)
theorem q_240 : Cond.instanceMethod yX5_meanToll ∈ AW := aw2 0 (by decide +kernel) (by decide +kernel)
theorem q_241 : Cond.selects RX5 yX5_meanToll yX5_meanToll ∈ AW := aw2 1 (by decide +kernel) (by decide +kernel)
theorem q_242 : Cond.code yX5_meanToll cX5_meanToll 2 (some .double) ∈ AW := aw2 2 (by decide +kernel) (by decide +kernel)
theorem q_243 : Cond.methodLink RX5 217 yX4_sumOf ∈ AW := aw2 3 (by decide +kernel) (by decide +kernel)
theorem q_244 : Cond.instanceMethod yX4_sumOf ∈ AW := aw2 4 (by decide +kernel) (by decide +kernel)
theorem q_245 : Cond.selects RX4 yX4_sumOf yX4_sumOf ∈ AW := aw2 5 (by decide +kernel) (by decide +kernel)
theorem q_246 : Cond.code yX4_sumOf cX4_sumOf 5 (some .int) ∈ AW := aw2 6 (by decide +kernel) (by decide +kernel)
theorem q_247 : Cond.methodLink RX4 32 yX4_gearAt ∈ AW := aw2 7 (by decide +kernel) (by decide +kernel)
theorem q_248 : Cond.instanceMethod yX4_gearAt ∈ AW := aw2 8 (by decide +kernel) (by decide +kernel)
theorem q_249 : Cond.selects RX4 yX4_gearAt yX4_gearAt ∈ AW := aw2 9 (by decide +kernel) (by decide +kernel)
theorem q_250 : Cond.code yX4_gearAt cX4_gearAt 2 (some (.object "ArmTolls$Gear")) ∈ AW := aw2 10 (by decide +kernel) (by decide +kernel)
theorem q_251 : Cond.methodLink RX4 36 yX0_property ∈ AW := aw2 11 (by decide +kernel) (by decide +kernel)
theorem q_252 : Cond.instanceMethod yX0_property ∈ AW := aw2 12 (by decide +kernel) (by decide +kernel)
theorem q_253 : Cond.selects RX0 yX0_property yX0_property ∈ AW := aw2 13 (by decide +kernel) (by decide +kernel)
theorem q_254 : Cond.code yX0_property cX0_property 2 (some .int) ∈ AW := aw2 14 (by decide +kernel) (by decide +kernel)
theorem q_255 : Cond.methodLink RX0 97 yX0_distance ∈ AW := aw2 15 (by decide +kernel) (by decide +kernel)
theorem q_256 : Cond.static yX0_distance ∈ AW := aw2 16 (by decide +kernel) (by decide +kernel)
theorem q_257 : Cond.code yX0_distance cX0_distance 3 (some .int) ∈ AW := aw2 17 (by decide +kernel) (by decide +kernel)
theorem q_258 : Cond.methodLink RX0 49 yJ9_floorMod_7cf53 ∈ AW := aw2 18 (by decide +kernel) (by decide +kernel)
theorem q_259 : Cond.static yJ9_floorMod_7cf53 ∈ AW := aw2 19 (by decide +kernel) (by decide +kernel)
theorem q_260 : Cond.code yJ9_floorMod_7cf53 cJ9_floorMod_7cf53 3 (some .int) ∈ AW := aw2 20 (by decide +kernel) (by decide +kernel)
theorem q_261 : Cond.methodLink RX0 55 yJ9_min_7cf53 ∈ AW := aw2 21 (by decide +kernel) (by decide +kernel)
theorem q_262 : Cond.static yJ9_min_7cf53 ∈ AW := aw2 22 (by decide +kernel) (by decide +kernel)
theorem q_263 : Cond.code yJ9_min_7cf53 cJ9_min_7cf53 2 (some .int) ∈ AW := aw2 23 (by decide +kernel) (by decide +kernel)
theorem q_264 : Cond.methodLink RL 179 yX5_digest ∈ AW := aw2 24 (by decide +kernel) (by decide +kernel)
theorem q_265 : Cond.instanceMethod yX5_digest ∈ AW := aw2 25 (by decide +kernel) (by decide +kernel)
theorem q_266 : Cond.selects RX5 yX5_digest yX5_digest ∈ AW := aw2 26 (by decide +kernel) (by decide +kernel)
theorem q_267 : Cond.code yX5_digest cX5_digest 5 (some .long) ∈ AW := aw2 27 (by decide +kernel) (by decide +kernel)
theorem q_268 : Cond.constantLong RX5 220 (2417) ∈ AW := aw2 28 (by decide +kernel) (by decide +kernel)
theorem q_269 : Cond.methodLink RX5 189 yX5_countOf ∈ AW := aw2 29 (by decide +kernel) (by decide +kernel)
theorem q_271 : Cond.instanceMethod yX5_countOf ∈ AW := aw2 31 (by decide +kernel) (by decide +kernel)
theorem q_272 : Cond.code yX5_countOf cX5_countOf 2 (some .int) ∈ AW := aw2 32 (by decide +kernel) (by decide +kernel)
theorem q_273 : Cond.methodLink RX5 313 yX4_wearOfAll ∈ AW := aw2 33 (by decide +kernel) (by decide +kernel)
theorem q_274 : Cond.instanceMethod yX4_wearOfAll ∈ AW := aw2 34 (by decide +kernel) (by decide +kernel)
theorem q_275 : Cond.selects RX4 yX4_wearOfAll yX4_wearOfAll ∈ AW := aw2 35 (by decide +kernel) (by decide +kernel)
theorem q_276 : Cond.code yX4_wearOfAll cX4_wearOfAll 5 (some .int) ∈ AW := aw2 36 (by decide +kernel) (by decide +kernel)
theorem q_277 : Cond.methodLink RX4 40 yX0_wearOf ∈ AW := aw2 37 (by decide +kernel) (by decide +kernel)
theorem q_278 : Cond.instanceMethod yX0_wearOf ∈ AW := aw2 38 (by decide +kernel) (by decide +kernel)
theorem q_279 : Cond.selects RX0 yX0_wearOf yX0_wearOf ∈ AW := aw2 39 (by decide +kernel) (by decide +kernel)
theorem q_280 : Cond.code yX0_wearOf cX0_wearOf 2 (some .int) ∈ AW := aw2 40 (by decide +kernel) (by decide +kernel)
theorem q_281 : Cond.methodLink RX5 319 yX4_teethWornTo ∈ AW := aw2 41 (by decide +kernel) (by decide +kernel)
theorem q_282 : Cond.instanceMethod yX4_teethWornTo ∈ AW := aw2 42 (by decide +kernel) (by decide +kernel)
theorem q_283 : Cond.selects RX4 yX4_teethWornTo yX4_teethWornTo ∈ AW := aw2 43 (by decide +kernel) (by decide +kernel)
theorem q_284 : Cond.code yX4_teethWornTo cX4_teethWornTo 6 (some .int) ∈ AW := aw2 44 (by decide +kernel) (by decide +kernel)
theorem q_285 : Cond.methodLink RX5 322 yX4_axesWhereBelieved ∈ AW := aw2 45 (by decide +kernel) (by decide +kernel)
theorem q_286 : Cond.instanceMethod yX4_axesWhereBelieved ∈ AW := aw2 46 (by decide +kernel) (by decide +kernel)
theorem q_287 : Cond.selects RX4 yX4_axesWhereBelieved yX4_axesWhereBelieved ∈ AW := aw2 47 (by decide +kernel) (by decide +kernel)
theorem q_288 : Cond.code yX4_axesWhereBelieved cX4_axesWhereBelieved 4 (some .int) ∈ AW := aw2 48 (by decide +kernel) (by decide +kernel)
theorem q_289 : Cond.methodLink RX5 222 yX5_mixed ∈ AW := aw2 49 (by decide +kernel) (by decide +kernel)
theorem q_290 : Cond.static yX5_mixed ∈ AW := aw2 50 (by decide +kernel) (by decide +kernel)
theorem q_291 : Cond.code yX5_mixed cX5_mixed 4 (some .long) ∈ AW := aw2 51 (by decide +kernel) (by decide +kernel)
theorem q_292 : Cond.constantLong RX5 346 (31) ∈ AW := aw2 52 (by decide +kernel) (by decide +kernel)
theorem q_293 : Cond.methodLink RX5 88 yX3_valueOf ∈ AW := aw2 53 (by decide +kernel) (by decide +kernel)
theorem q_294 : Cond.instanceMethod yX3_valueOf ∈ AW := aw2 54 (by decide +kernel) (by decide +kernel)
theorem q_295 : Cond.selects RX3 yX3_valueOf yX3_valueOf ∈ AW := aw2 55 (by decide +kernel) (by decide +kernel)
theorem q_296 : Cond.code yX3_valueOf cX3_valueOf 2 (some .int) ∈ AW := aw2 56 (by decide +kernel) (by decide +kernel)
theorem q_297 : Cond.methodLink RX5 226 yX4_gearAt ∈ AW := aw2 57 (by decide +kernel) (by decide +kernel)
theorem q_298 : Cond.methodLink RX5 229 yX5_mixedWithFacts ∈ AW := aw2 58 (by decide +kernel) (by decide +kernel)
theorem q_299 : Cond.static yX5_mixedWithFacts ∈ AW := aw2 59 (by decide +kernel) (by decide +kernel)
theorem q_300 : Cond.code yX5_mixedWithFacts cX5_mixedWithFacts 4 (some .long) ∈ AW := aw2 60 (by decide +kernel) (by decide +kernel)
theorem q_301 : Cond.methodLink RX5 184 yX0_property ∈ AW := aw2 61 (by decide +kernel) (by decide +kernel)
theorem q_302 : Cond.methodLink RX5 144 yX0_wearOf ∈ AW := aw2 62 (by decide +kernel) (by decide +kernel)
theorem q_303 : Cond.methodLink RX5 233 yX5_mixedWithForecasts ∈ AW := aw2 63 (by decide +kernel) (by decide +kernel)
theorem q_305 : Cond.instanceMethod yX5_mixedWithForecasts ∈ AW := aw2 65 (by decide +kernel) (by decide +kernel)
theorem q_306 : Cond.code yX5_mixedWithForecasts cX5_mixedWithForecasts 5 (some .long) ∈ AW := aw2 66 (by decide +kernel) (by decide +kernel)
theorem q_307 : Cond.methodLink RX5 192 yX0_tollOfStep ∈ AW := aw2 67 (by decide +kernel) (by decide +kernel)
theorem q_308 : Cond.instanceMethod yX0_tollOfStep ∈ AW := aw2 68 (by decide +kernel) (by decide +kernel)
theorem q_309 : Cond.selects RX0 yX0_tollOfStep yX0_tollOfStep ∈ AW := aw2 69 (by decide +kernel) (by decide +kernel)
theorem q_310 : Cond.code yX0_tollOfStep cX0_tollOfStep 3 (some .int) ∈ AW := aw2 70 (by decide +kernel) (by decide +kernel)
theorem q_311 : Cond.methodLink RX0 63 yX0_toothBy ∈ AW := aw2 71 (by decide +kernel) (by decide +kernel)
theorem q_312 : Cond.static yX0_toothBy ∈ AW := aw2 72 (by decide +kernel) (by decide +kernel)
theorem q_313 : Cond.code yX0_toothBy cX0_toothBy 2 (some .int) ∈ AW := aw2 73 (by decide +kernel) (by decide +kernel)
theorem q_314 : Cond.methodLink RX0 66 yX0_wearOf ∈ AW := aw2 74 (by decide +kernel) (by decide +kernel)
theorem q_315 : Cond.methodLink RX0 70 yX0_tollWith ∈ AW := aw2 75 (by decide +kernel) (by decide +kernel)
theorem q_316 : Cond.instanceMethod yX0_tollWith ∈ AW := aw2 76 (by decide +kernel) (by decide +kernel)
theorem q_317 : Cond.selects RX0 yX0_tollWith yX0_tollWith ∈ AW := aw2 77 (by decide +kernel) (by decide +kernel)
theorem q_318 : Cond.code yX0_tollWith cX0_tollWith 5 (some .int) ∈ AW := aw2 78 (by decide +kernel) (by decide +kernel)
theorem q_319 : Cond.methodLink RX5 196 yX5_turnAndSlip ∈ AW := aw2 79 (by decide +kernel) (by decide +kernel)
theorem q_321 : Cond.instanceMethod yX5_turnAndSlip ∈ AW := aw2 81 (by decide +kernel) (by decide +kernel)
theorem q_322 : Cond.code yX5_turnAndSlip cX5_turnAndSlip 4 (some .int) ∈ AW := aw2 82 (by decide +kernel) (by decide +kernel)
theorem q_323 : Cond.methodLink RX5 325 yX0_isTurn ∈ AW := aw2 83 (by decide +kernel) (by decide +kernel)
theorem q_324 : Cond.instanceMethod yX0_isTurn ∈ AW := aw2 84 (by decide +kernel) (by decide +kernel)
theorem q_325 : Cond.selects RX0 yX0_isTurn yX0_isTurn ∈ AW := aw2 85 (by decide +kernel) (by decide +kernel)
theorem q_326 : Cond.code yX0_isTurn cX0_isTurn 2 (some .boolean) ∈ AW := aw2 86 (by decide +kernel) (by decide +kernel)
theorem q_327 : Cond.methodLink RX5 331 yX0_toothBy ∈ AW := aw2 87 (by decide +kernel) (by decide +kernel)
theorem q_328 : Cond.methodLink RX5 199 yX0_costOfWay ∈ AW := aw2 88 (by decide +kernel) (by decide +kernel)
theorem q_329 : Cond.instanceMethod yX0_costOfWay ∈ AW := aw2 89 (by decide +kernel) (by decide +kernel)
theorem q_330 : Cond.selects RX0 yX0_costOfWay yX0_costOfWay ∈ AW := aw2 90 (by decide +kernel) (by decide +kernel)
theorem q_331 : Cond.code yX0_costOfWay cX0_costOfWay 10 (some .int) ∈ AW := aw2 91 (by decide +kernel) (by decide +kernel)
theorem q_332 : Cond.methodLink RX0 78 yX0_nextPlace ∈ AW := aw2 92 (by decide +kernel) (by decide +kernel)
theorem q_333 : Cond.static yX0_nextPlace ∈ AW := aw2 93 (by decide +kernel) (by decide +kernel)
theorem q_334 : Cond.code yX0_nextPlace cX0_nextPlace 3 (some .int) ∈ AW := aw2 94 (by decide +kernel) (by decide +kernel)
theorem q_335 : Cond.methodLink RX5 205 yX5_homingFact ∈ AW := aw2 95 (by decide +kernel) (by decide +kernel)
theorem q_337 : Cond.instanceMethod yX5_homingFact ∈ AW := aw2 97 (by decide +kernel) (by decide +kernel)
theorem q_338 : Cond.code yX5_homingFact cX5_homingFact 4 (some .int) ∈ AW := aw2 98 (by decide +kernel) (by decide +kernel)
theorem q_339 : Cond.methodLink RX5 335 yX0_copyFrom ∈ AW := aw2 99 (by decide +kernel) (by decide +kernel)
theorem q_340 : Cond.instanceMethod yX0_copyFrom ∈ AW := aw2 100 (by decide +kernel) (by decide +kernel)
theorem q_341 : Cond.selects RX0 yX0_copyFrom yX0_copyFrom ∈ AW := aw2 101 (by decide +kernel) (by decide +kernel)
theorem q_342 : Cond.code yX0_copyFrom cX0_copyFrom 2 none ∈ AW := aw2 102 (by decide +kernel) (by decide +kernel)
theorem q_343 : Cond.methodLink RX0 100 ⟨"java/lang/System", "arraycopy", "(Ljava/lang/Object;ILjava/lang/Object;II)V"⟩ ∈ AW := aw2 103 (by decide +kernel) (by decide +kernel)
theorem q_344 : Cond.static ⟨"java/lang/System", "arraycopy", "(Ljava/lang/Object;ILjava/lang/Object;II)V"⟩ ∈ AW := aw2 104 (by decide +kernel) (by decide +kernel)
theorem q_345 : Cond.native ⟨"java/lang/System", "arraycopy", "(Ljava/lang/Object;ILjava/lang/Object;II)V"⟩ ∈ AW := aw2 105 (by decide +kernel) (by decide +kernel)
theorem q_346 : Cond.methodLink RX5 280 yX0_makeHomed ∈ AW := aw2 106 (by decide +kernel) (by decide +kernel)
theorem q_347 : Cond.instanceMethod yX0_makeHomed ∈ AW := aw2 107 (by decide +kernel) (by decide +kernel)
theorem q_348 : Cond.selects RX0 yX0_makeHomed yX0_makeHomed ∈ AW := aw2 108 (by decide +kernel) (by decide +kernel)
theorem q_349 : Cond.code yX0_makeHomed cX0_makeHomed 6 (some .int) ∈ AW := aw2 109 (by decide +kernel) (by decide +kernel)
theorem q_350 : Cond.methodLink RX0 94 yX0_makeStep ∈ AW := aw2 110 (by decide +kernel) (by decide +kernel)
theorem q_351 : Cond.instanceMethod yX0_makeStep ∈ AW := aw2 111 (by decide +kernel) (by decide +kernel)
theorem q_352 : Cond.selects RX0 yX0_makeStep yX0_makeStep ∈ AW := aw2 112 (by decide +kernel) (by decide +kernel)
theorem q_353 : Cond.code yX0_makeStep cX0_makeStep 8 (some .int) ∈ AW := aw2 113 (by decide +kernel) (by decide +kernel)
theorem q_354 : Cond.methodLink RX0 74 yX0_isTurn ∈ AW := aw2 114 (by decide +kernel) (by decide +kernel)
theorem q_355 : Cond.methodLink RX0 87 yX0_setWear ∈ AW := aw2 115 (by decide +kernel) (by decide +kernel)
theorem q_356 : Cond.instanceMethod yX0_setWear ∈ AW := aw2 116 (by decide +kernel) (by decide +kernel)
theorem q_357 : Cond.selects RX0 yX0_setWear yX0_setWear ∈ AW := aw2 117 (by decide +kernel) (by decide +kernel)
theorem q_358 : Cond.code yX0_setWear cX0_setWear 3 none ∈ AW := aw2 118 (by decide +kernel) (by decide +kernel)
theorem q_359 : Cond.methodLink RX0 91 yJ9_max_7cf53 ∈ AW := aw2 119 (by decide +kernel) (by decide +kernel)
theorem q_360 : Cond.static yJ9_max_7cf53 ∈ AW := aw2 120 (by decide +kernel) (by decide +kernel)
theorem q_361 : Cond.code yJ9_max_7cf53 cJ9_max_7cf53 2 (some .int) ∈ AW := aw2 121 (by decide +kernel) (by decide +kernel)
theorem q_362 : Cond.methodLink RX5 208 yX5_reachOf ∈ AW := aw2 122 (by decide +kernel) (by decide +kernel)
theorem q_364 : Cond.instanceMethod yX5_reachOf ∈ AW := aw2 124 (by decide +kernel) (by decide +kernel)
theorem q_365 : Cond.code yX5_reachOf cX5_reachOf 6 (some .int) ∈ AW := aw2 125 (by decide +kernel) (by decide +kernel)
theorem q_366 : Cond.methodLink RX5 273 yX0_makeStep ∈ AW := aw2 126 (by decide +kernel) (by decide +kernel)
theorem q_367 : Cond.methodLink RX5 211 yX0_possiblePlaces ∈ AW := aw2 127 (by decide +kernel) (by decide +kernel)
theorem q_368 : Cond.instanceMethod yX0_possiblePlaces ∈ AW := aw2 128 (by decide +kernel) (by decide +kernel)
theorem q_369 : Cond.selects RX0 yX0_possiblePlaces yX0_possiblePlaces ∈ AW := aw2 129 (by decide +kernel) (by decide +kernel)
theorem q_370 : Cond.code yX0_possiblePlaces cX0_possiblePlaces 3 (some .int) ∈ AW := aw2 130 (by decide +kernel) (by decide +kernel)
theorem q_371 : Cond.methodLink RX5 214 yX5_worstTooth ∈ AW := aw2 131 (by decide +kernel) (by decide +kernel)
theorem q_373 : Cond.instanceMethod yX5_worstTooth ∈ AW := aw2 133 (by decide +kernel) (by decide +kernel)
theorem q_374 : Cond.code yX5_worstTooth cX5_worstTooth 7 (some .int) ∈ AW := aw2 134 (by decide +kernel) (by decide +kernel)
theorem q_375 : Cond.methodLink RX5 338 yX5_lesserCost ∈ AW := aw2 135 (by decide +kernel) (by decide +kernel)
theorem q_377 : Cond.instanceMethod yX5_lesserCost ∈ AW := aw2 137 (by decide +kernel) (by decide +kernel)
theorem q_378 : Cond.code yX5_lesserCost cX5_lesserCost 6 (some .int) ∈ AW := aw2 138 (by decide +kernel) (by decide +kernel)
theorem q_379 : Cond.methodLink RX5 341 yJ9_min_7cf53 ∈ AW := aw2 139 (by decide +kernel) (by decide +kernel)
theorem q_380 : Cond.methodLink RX5 236 yX5_meanToll ∈ AW := aw2 140 (by decide +kernel) (by decide +kernel)
theorem q_381 : Cond.methodLink RX5 240 yX5_bitsOf ∈ AW := aw2 141 (by decide +kernel) (by decide +kernel)
theorem q_382 : Cond.static yX5_bitsOf ∈ AW := aw2 142 (by decide +kernel) (by decide +kernel)
theorem q_383 : Cond.code yX5_bitsOf cX5_bitsOf 8 (some .long) ∈ AW := aw2 143 (by decide +kernel) (by decide +kernel)
theorem q_384 : Cond.constantDouble RX5 348 (4611686018427387904) ∈ AW := aw2 144 (by decide +kernel) (by decide +kernel)
theorem q_385 : Cond.constantLong RX5 350 (1023) ∈ AW := aw2 145 (by decide +kernel) (by decide +kernel)
theorem q_386 : Cond.constantDouble RX5 352 (4841369599423283200) ∈ AW := aw2 146 (by decide +kernel) (by decide +kernel)
theorem q_387 : Cond.methodLink RL 90 yL_earn ∈ AW := aw2 147 (by decide +kernel) (by decide +kernel)
theorem q_388 : Cond.static yL_earn ∈ AW := aw2 148 (by decide +kernel) (by decide +kernel)
theorem q_389 : Cond.codeWith yL_earn cL_earn 4 (some .int) [(0, 9, 12, 13), (0, 9, 15, 15)] ∈ AW := aw2 149 (by decide +kernel) (by decide +kernel)
theorem q_390 : Cond.classLink RL 13 "java/lang/IllegalArgumentException" ∈ AW := aw2 150 (by decide +kernel) (by decide +kernel)
theorem q_391 : Cond.classLink RL 15 "java/lang/IllegalStateException" ∈ AW := aw2 151 (by decide +kernel) (by decide +kernel)
theorem q_392 : Cond.methodLink RL 7 yX5_earn ∈ AW := aw2 152 (by decide +kernel) (by decide +kernel)
theorem q_393 : Cond.instanceMethod yX5_earn ∈ AW := aw2 153 (by decide +kernel) (by decide +kernel)
theorem q_394 : Cond.selects RX5 yX5_earn yX5_earn ∈ AW := aw2 154 (by decide +kernel) (by decide +kernel)
theorem q_395 : Cond.code yX5_earn cX5_earn 2 (some .int) ∈ AW := aw2 155 (by decide +kernel) (by decide +kernel)
theorem q_396 : Cond.classLink RX5 45 "java/lang/IllegalArgumentException" ∈ AW := aw2 156 (by decide +kernel) (by decide +kernel)
theorem q_397 : Cond.instantiable "java/lang/IllegalArgumentException" 6 ∈ AW := aw2 157 (by decide +kernel) (by decide +kernel)
theorem q_405 : Cond.selects "java/lang/IllegalArgumentException" ⟨"java/lang/Throwable", "fillInStackTrace", "(I)Ljava/lang/Throwable;"⟩ ⟨"java/lang/Throwable", "fillInStackTrace", "(I)Ljava/lang/Throwable;"⟩ ∈ AW := aw2 165 (by decide +kernel) (by decide +kernel)
theorem q_406 : Cond.selects "java/lang/IllegalArgumentException" ⟨"java/lang/Throwable", "fillInStackTrace", "()Ljava/lang/Throwable;"⟩ ⟨"java/lang/Throwable", "fillInStackTrace", "()Ljava/lang/Throwable;"⟩ ∈ AW := aw2 166 (by decide +kernel) (by decide +kernel)
theorem q_417 : Cond.fieldLink "java/lang/Throwable" 198 "java/lang/Throwable" "backtrace" "Ljava/lang/Object;" ∈ AW := aw2 177 (by decide +kernel) (by decide +kernel)
theorem q_421 : Cond.methodLink "java/lang/Throwable" 1 ⟨"java/lang/Object", "<init>", "()V"⟩ ∈ AW := aw2 181 (by decide +kernel) (by decide +kernel)
theorem q_422 : Cond.fieldLink "java/lang/Throwable" 13 "java/lang/Throwable" "UNASSIGNED_STACK" "[Ljava/lang/StackTraceElement;" ∈ AW := aw2 182 (by decide +kernel) (by decide +kernel)
theorem q_424 : Cond.fieldLink "java/lang/Throwable" 20 "java/lang/Throwable" "SUPPRESSED_SENTINEL" "Ljava/util/List;" ∈ AW := aw2 184 (by decide +kernel) (by decide +kernel)
theorem q_426 : Cond.methodLink "java/lang/Throwable" 27 ⟨"java/lang/Throwable", "fillInStackTrace", "()Ljava/lang/Throwable;"⟩ ∈ AW := aw2 186 (by decide +kernel) (by decide +kernel)
theorem q_429 : Cond.selects "java/lang/IllegalStateException" ⟨"java/lang/Throwable", "fillInStackTrace", "()Ljava/lang/Throwable;"⟩ ⟨"java/lang/Throwable", "fillInStackTrace", "()Ljava/lang/Throwable;"⟩ ∈ AW := aw2 189 (by decide +kernel) (by decide +kernel)
theorem q_430 : Cond.selects "java/lang/IndexOutOfBoundsException" ⟨"java/lang/Throwable", "fillInStackTrace", "()Ljava/lang/Throwable;"⟩ ⟨"java/lang/Throwable", "fillInStackTrace", "()Ljava/lang/Throwable;"⟩ ∈ AW := aw2 190 (by decide +kernel) (by decide +kernel)
theorem q_432 : Cond.methodLink "java/lang/Throwable" 202 ⟨"java/lang/Throwable", "fillInStackTrace", "(I)Ljava/lang/Throwable;"⟩ ∈ AW := aw2 192 (by decide +kernel) (by decide +kernel)
theorem q_435 : Cond.instantiable "java/lang/Throwable" 6 ∈ AW := aw2 195 (by decide +kernel) (by decide +kernel)
theorem q_438 : Cond.methodLink RX5 49 ⟨"java/lang/IllegalArgumentException", "<init>", "(Ljava/lang/String;)V"⟩ ∈ AW := aw2 198 (by decide +kernel) (by decide +kernel)
theorem q_441 : Cond.methodLink "java/lang/IllegalArgumentException" 7 ⟨"java/lang/RuntimeException", "<init>", "(Ljava/lang/String;)V"⟩ ∈ AW := aw2 201 (by decide +kernel) (by decide +kernel)
theorem q_444 : Cond.methodLink "java/lang/RuntimeException" 7 ⟨"java/lang/Exception", "<init>", "(Ljava/lang/String;)V"⟩ ∈ AW := aw2 204 (by decide +kernel) (by decide +kernel)
theorem q_447 : Cond.methodLink "java/lang/Exception" 7 ⟨"java/lang/Throwable", "<init>", "(Ljava/lang/String;)V"⟩ ∈ AW := aw2 207 (by decide +kernel) (by decide +kernel)
theorem q_451 : Cond.fieldLink "java/lang/Throwable" 31 "java/lang/Throwable" "detailMessage" "Ljava/lang/String;" ∈ AW := aw2 211 (by decide +kernel) (by decide +kernel)
theorem q_452 : Cond.fieldLink "java/lang/Throwable" 7 "java/lang/Throwable" "cause" "Ljava/lang/Throwable;" ∈ AW := aw2 212 (by decide +kernel) (by decide +kernel)
theorem q_453 : Cond.fieldLink "java/lang/Throwable" 17 "java/lang/Throwable" "stackTrace" "[Ljava/lang/StackTraceElement;" ∈ AW := aw2 213 (by decide +kernel) (by decide +kernel)
theorem q_454 : Cond.fieldLink "java/lang/Throwable" 24 "java/lang/Throwable" "suppressedExceptions" "Ljava/util/List;" ∈ AW := aw2 214 (by decide +kernel) (by decide +kernel)
theorem q_463 : Cond.arrayClass .byte ∈ AW := aw2 223 (by decide +kernel) (by decide +kernel)
theorem q_464 : Cond.constant RX5 55 (100000) ∈ AW := aw2 224 (by decide +kernel) (by decide +kernel)
theorem q_465 : Cond.classLink RX5 56 "java/lang/IllegalStateException" ∈ AW := aw2 225 (by decide +kernel) (by decide +kernel)
theorem q_466 : Cond.instantiable "java/lang/IllegalStateException" 6 ∈ AW := aw2 226 (by decide +kernel) (by decide +kernel)
theorem q_468 : Cond.selects "java/lang/IllegalStateException" ⟨"java/lang/Throwable", "fillInStackTrace", "(I)Ljava/lang/Throwable;"⟩ ⟨"java/lang/Throwable", "fillInStackTrace", "(I)Ljava/lang/Throwable;"⟩ ∈ AW := aw2 228 (by decide +kernel) (by decide +kernel)
theorem q_475 : Cond.methodLink RX5 60 ⟨"java/lang/IllegalStateException", "<init>", "(Ljava/lang/String;)V"⟩ ∈ AW := aw2 235 (by decide +kernel) (by decide +kernel)
theorem q_478 : Cond.methodLink "java/lang/IllegalStateException" 7 ⟨"java/lang/RuntimeException", "<init>", "(Ljava/lang/String;)V"⟩ ∈ AW := aw2 238 (by decide +kernel) (by decide +kernel)
theorem q_481 : Cond.methodLink RX5 61 yX1_save ∈ AW := aw3 1 (by decide +kernel) (by decide +kernel)
theorem q_482 : Cond.instanceMethod yX1_save ∈ AW := aw3 2 (by decide +kernel) (by decide +kernel)
theorem q_483 : Cond.selects RX1 yX1_save yX1_save ∈ AW := aw3 3 (by decide +kernel) (by decide +kernel)
theorem q_484 : Cond.code yX1_save cX1_save 3 none ∈ AW := aw3 4 (by decide +kernel) (by decide +kernel)
theorem q_485 : Cond.methodLink RX1 25 yJ9_min_7cf53 ∈ AW := aw3 5 (by decide +kernel) (by decide +kernel)
theorem q_486 : Cond.methodLink RX1 31 yX1_newestRow ∈ AW := aw3 6 (by decide +kernel) (by decide +kernel)
theorem q_487 : Cond.instanceMethod yX1_newestRow ∈ AW := aw3 7 (by decide +kernel) (by decide +kernel)
theorem q_488 : Cond.selects RX1 yX1_newestRow yX1_newestRow ∈ AW := aw3 8 (by decide +kernel) (by decide +kernel)
theorem q_489 : Cond.code yX1_newestRow cX1_newestRow 1 (some (.object "ArmTolls$State")) ∈ AW := aw3 9 (by decide +kernel) (by decide +kernel)
theorem q_490 : Cond.methodLink RX1 35 yX4_copyFrom ∈ AW := aw3 10 (by decide +kernel) (by decide +kernel)
theorem q_491 : Cond.instanceMethod yX4_copyFrom ∈ AW := aw3 11 (by decide +kernel) (by decide +kernel)
theorem q_492 : Cond.selects RX4 yX4_copyFrom yX4_copyFrom ∈ AW := aw3 12 (by decide +kernel) (by decide +kernel)
theorem q_493 : Cond.code yX4_copyFrom cX4_copyFrom 5 none ∈ AW := aw3 13 (by decide +kernel) (by decide +kernel)
theorem q_494 : Cond.methodLink RX4 49 yX3_copyFrom ∈ AW := aw3 14 (by decide +kernel) (by decide +kernel)
theorem q_495 : Cond.instanceMethod yX3_copyFrom ∈ AW := aw3 15 (by decide +kernel) (by decide +kernel)
theorem q_496 : Cond.selects RX3 yX3_copyFrom yX3_copyFrom ∈ AW := aw3 16 (by decide +kernel) (by decide +kernel)
theorem q_497 : Cond.code yX3_copyFrom cX3_copyFrom 2 none ∈ AW := aw3 17 (by decide +kernel) (by decide +kernel)
theorem q_498 : Cond.methodLink RX4 53 yX0_copyFrom ∈ AW := aw3 18 (by decide +kernel) (by decide +kernel)
theorem q_499 : Cond.methodLink RL 99 yL_load ∈ AW := aw3 19 (by decide +kernel) (by decide +kernel)
theorem q_500 : Cond.static yL_load ∈ AW := aw3 20 (by decide +kernel) (by decide +kernel)
theorem q_501 : Cond.codeWith yL_load cL_load 5 (some .int) [(0, 10, 13, 21), (0, 10, 17, 13)] ∈ AW := aw3 21 (by decide +kernel) (by decide +kernel)
theorem q_502 : Cond.classLink RL 21 "java/lang/IndexOutOfBoundsException" ∈ AW := aw3 22 (by decide +kernel) (by decide +kernel)
theorem q_503 : Cond.methodLink RL 17 yX5_load ∈ AW := aw3 23 (by decide +kernel) (by decide +kernel)
theorem q_504 : Cond.instanceMethod yX5_load ∈ AW := aw3 24 (by decide +kernel) (by decide +kernel)
theorem q_505 : Cond.selects RX5 yX5_load yX5_load ∈ AW := aw3 25 (by decide +kernel) (by decide +kernel)
theorem q_506 : Cond.code yX5_load cX5_load 5 (some .int) ∈ AW := aw3 26 (by decide +kernel) (by decide +kernel)
theorem q_507 : Cond.methodLink RX5 65 yX5_gearOf ∈ AW := aw3 27 (by decide +kernel) (by decide +kernel)
theorem q_509 : Cond.instanceMethod yX5_gearOf ∈ AW := aw3 29 (by decide +kernel) (by decide +kernel)
theorem q_510 : Cond.code yX5_gearOf cX5_gearOf 3 (some (.object "ArmTolls$Gear")) ∈ AW := aw3 30 (by decide +kernel) (by decide +kernel)
theorem q_511 : Cond.classLink RX5 247 "java/lang/IndexOutOfBoundsException" ∈ AW := aw3 31 (by decide +kernel) (by decide +kernel)
theorem q_512 : Cond.instantiable "java/lang/IndexOutOfBoundsException" 6 ∈ AW := aw3 32 (by decide +kernel) (by decide +kernel)
theorem q_514 : Cond.selects "java/lang/IndexOutOfBoundsException" ⟨"java/lang/Throwable", "fillInStackTrace", "(I)Ljava/lang/Throwable;"⟩ ⟨"java/lang/Throwable", "fillInStackTrace", "(I)Ljava/lang/Throwable;"⟩ ∈ AW := aw3 34 (by decide +kernel) (by decide +kernel)
theorem q_521 : Cond.methodLink RX5 251 ⟨"java/lang/IndexOutOfBoundsException", "<init>", "(Ljava/lang/String;)V"⟩ ∈ AW := aw3 41 (by decide +kernel) (by decide +kernel)
theorem q_524 : Cond.methodLink "java/lang/IndexOutOfBoundsException" 7 ⟨"java/lang/RuntimeException", "<init>", "(Ljava/lang/String;)V"⟩ ∈ AW := aw3 44 (by decide +kernel) (by decide +kernel)
theorem q_528 : Cond.methodLink RL 103 yL_set ∈ AW := aw3 48 (by decide +kernel) (by decide +kernel)
theorem q_529 : Cond.static yL_set ∈ AW := aw3 49 (by decide +kernel) (by decide +kernel)
theorem q_530 : Cond.codeWith yL_set cL_set 5 (some .int) [(0, 10, 13, 21), (0, 10, 17, 13)] ∈ AW := aw3 50 (by decide +kernel) (by decide +kernel)
theorem q_531 : Cond.methodLink RL 23 yX5_set ∈ AW := aw3 51 (by decide +kernel) (by decide +kernel)
theorem q_532 : Cond.instanceMethod yX5_set ∈ AW := aw3 52 (by decide +kernel) (by decide +kernel)
theorem q_533 : Cond.selects RX5 yX5_set yX5_set ∈ AW := aw3 53 (by decide +kernel) (by decide +kernel)
theorem q_534 : Cond.code yX5_set cX5_set 4 (some .int) ∈ AW := aw3 54 (by decide +kernel) (by decide +kernel)
theorem q_535 : Cond.methodLink RX5 74 yX5_checkSetting ∈ AW := aw3 55 (by decide +kernel) (by decide +kernel)
theorem q_536 : Cond.static yX5_checkSetting ∈ AW := aw3 56 (by decide +kernel) (by decide +kernel)
theorem q_537 : Cond.code yX5_checkSetting cX5_checkSetting 1 none ∈ AW := aw3 57 (by decide +kernel) (by decide +kernel)
theorem q_539 : Cond.methodLink RX5 78 yX5_isValueOf ∈ AW := aw3 59 (by decide +kernel) (by decide +kernel)
theorem q_540 : Cond.static yX5_isValueOf ∈ AW := aw3 60 (by decide +kernel) (by decide +kernel)
theorem q_541 : Cond.code yX5_isValueOf cX5_isValueOf 2 (some .boolean) ∈ AW := aw3 61 (by decide +kernel) (by decide +kernel)
theorem q_542 : Cond.fieldLink RX5 258 "ArmTolls" "LEAST_OF_SETTING" "[I" ∈ AW := aw3 62 (by decide +kernel) (by decide +kernel)
theorem q_544 : Cond.fieldLink RX5 261 "ArmTolls" "MOST_OF_SETTING" "[I" ∈ AW := aw3 64 (by decide +kernel) (by decide +kernel)
theorem q_547 : Cond.methodLink RX5 94 yX3_put ∈ AW := aw3 67 (by decide +kernel) (by decide +kernel)
theorem q_548 : Cond.instanceMethod yX3_put ∈ AW := aw3 68 (by decide +kernel) (by decide +kernel)
theorem q_549 : Cond.selects RX3 yX3_put yX3_put ∈ AW := aw3 69 (by decide +kernel) (by decide +kernel)
theorem q_550 : Cond.code yX3_put cX3_put 3 none ∈ AW := aw3 70 (by decide +kernel) (by decide +kernel)
theorem q_551 : Cond.methodLink RL 106 yL_step ∈ AW := aw3 71 (by decide +kernel) (by decide +kernel)
theorem q_552 : Cond.static yL_step ∈ AW := aw3 72 (by decide +kernel) (by decide +kernel)
theorem q_553 : Cond.codeWith yL_step cL_step 5 (some .int) [(0, 10, 13, 21), (0, 10, 17, 13), (0, 10, 21, 15)] ∈ AW := aw3 73 (by decide +kernel) (by decide +kernel)
theorem q_554 : Cond.methodLink RL 26 yX5_step ∈ AW := aw3 74 (by decide +kernel) (by decide +kernel)
theorem q_555 : Cond.instanceMethod yX5_step ∈ AW := aw3 75 (by decide +kernel) (by decide +kernel)
theorem q_556 : Cond.selects RX5 yX5_step yX5_step ∈ AW := aw3 76 (by decide +kernel) (by decide +kernel)
theorem q_557 : Cond.code yX5_step cX5_step 5 (some .int) ∈ AW := aw3 77 (by decide +kernel) (by decide +kernel)
theorem q_559 : Cond.methodLink RX5 100 yX5_wayOf ∈ AW := aw3 79 (by decide +kernel) (by decide +kernel)
theorem q_560 : Cond.static yX5_wayOf ∈ AW := aw3 80 (by decide +kernel) (by decide +kernel)
theorem q_561 : Cond.code yX5_wayOf cX5_wayOf 1 (some .int) ∈ AW := aw3 81 (by decide +kernel) (by decide +kernel)
theorem q_562 : Cond.methodLink RX5 104 yX5_canStep ∈ AW := aw3 82 (by decide +kernel) (by decide +kernel)
theorem q_564 : Cond.instanceMethod yX5_canStep ∈ AW := aw3 84 (by decide +kernel) (by decide +kernel)
theorem q_565 : Cond.code yX5_canStep cX5_canStep 3 (some .boolean) ∈ AW := aw3 85 (by decide +kernel) (by decide +kernel)
theorem q_567 : Cond.methodLink RX5 110 yX5_makeSteps ∈ AW := aw3 87 (by decide +kernel) (by decide +kernel)
theorem q_569 : Cond.instanceMethod yX5_makeSteps ∈ AW := aw3 89 (by decide +kernel) (by decide +kernel)
theorem q_570 : Cond.code yX5_makeSteps cX5_makeSteps 6 (some .int) ∈ AW := aw3 90 (by decide +kernel) (by decide +kernel)
theorem q_571 : Cond.methodLink RL 109 yL_go ∈ AW := aw3 91 (by decide +kernel) (by decide +kernel)
theorem q_572 : Cond.static yL_go ∈ AW := aw3 92 (by decide +kernel) (by decide +kernel)
theorem q_573 : Cond.codeWith yL_go cL_go 5 (some .int) [(0, 10, 13, 21), (0, 10, 17, 13), (0, 10, 21, 15)] ∈ AW := aw3 93 (by decide +kernel) (by decide +kernel)
theorem q_574 : Cond.methodLink RL 29 yX5_go ∈ AW := aw3 94 (by decide +kernel) (by decide +kernel)
theorem q_575 : Cond.instanceMethod yX5_go ∈ AW := aw3 95 (by decide +kernel) (by decide +kernel)
theorem q_576 : Cond.selects RX5 yX5_go yX5_go ∈ AW := aw3 96 (by decide +kernel) (by decide +kernel)
theorem q_577 : Cond.code yX5_go cX5_go 4 (some .int) ∈ AW := aw3 97 (by decide +kernel) (by decide +kernel)
theorem q_578 : Cond.methodLink RX5 114 yX5_checkPlace ∈ AW := aw3 98 (by decide +kernel) (by decide +kernel)
theorem q_579 : Cond.static yX5_checkPlace ∈ AW := aw3 99 (by decide +kernel) (by decide +kernel)
theorem q_580 : Cond.code yX5_checkPlace cX5_checkPlace 1 none ∈ AW := aw3 100 (by decide +kernel) (by decide +kernel)
theorem q_582 : Cond.methodLink RX5 117 yX5_canGo ∈ AW := aw3 102 (by decide +kernel) (by decide +kernel)
theorem q_584 : Cond.instanceMethod yX5_canGo ∈ AW := aw3 104 (by decide +kernel) (by decide +kernel)
theorem q_585 : Cond.code yX5_canGo cX5_canGo 3 (some .boolean) ∈ AW := aw3 105 (by decide +kernel) (by decide +kernel)
theorem q_586 : Cond.methodLink RX5 267 yX5_cheaperWay ∈ AW := aw3 106 (by decide +kernel) (by decide +kernel)
theorem q_588 : Cond.instanceMethod yX5_cheaperWay ∈ AW := aw3 108 (by decide +kernel) (by decide +kernel)
theorem q_589 : Cond.code yX5_cheaperWay cX5_cheaperWay 5 (some .int) ∈ AW := aw3 109 (by decide +kernel) (by decide +kernel)
theorem q_590 : Cond.methodLink RX5 120 yX5_goTo ∈ AW := aw3 110 (by decide +kernel) (by decide +kernel)
theorem q_592 : Cond.instanceMethod yX5_goTo ∈ AW := aw3 112 (by decide +kernel) (by decide +kernel)
theorem q_593 : Cond.code yX5_goTo cX5_goTo 7 (some .int) ∈ AW := aw3 113 (by decide +kernel) (by decide +kernel)
theorem q_594 : Cond.methodLink RL 112 yL_home ∈ AW := aw3 114 (by decide +kernel) (by decide +kernel)
theorem q_595 : Cond.static yL_home ∈ AW := aw3 115 (by decide +kernel) (by decide +kernel)
theorem q_596 : Cond.codeWith yL_home cL_home 4 (some .int) [(0, 9, 12, 21)] ∈ AW := aw3 116 (by decide +kernel) (by decide +kernel)
theorem q_597 : Cond.methodLink RL 32 yX5_home ∈ AW := aw3 117 (by decide +kernel) (by decide +kernel)
theorem q_598 : Cond.instanceMethod yX5_home ∈ AW := aw3 118 (by decide +kernel) (by decide +kernel)
theorem q_599 : Cond.selects RX5 yX5_home yX5_home ∈ AW := aw3 119 (by decide +kernel) (by decide +kernel)
theorem q_600 : Cond.code yX5_home cX5_home 5 (some .int) ∈ AW := aw3 120 (by decide +kernel) (by decide +kernel)
theorem q_601 : Cond.methodLink RX5 127 yX5_makeHomed ∈ AW := aw3 121 (by decide +kernel) (by decide +kernel)
theorem q_603 : Cond.instanceMethod yX5_makeHomed ∈ AW := aw3 123 (by decide +kernel) (by decide +kernel)
theorem q_604 : Cond.code yX5_makeHomed cX5_makeHomed 3 (some .boolean) ∈ AW := aw3 124 (by decide +kernel) (by decide +kernel)
theorem q_605 : Cond.methodLink RL 115 yL_grease ∈ AW := aw3 125 (by decide +kernel) (by decide +kernel)
theorem q_606 : Cond.static yL_grease ∈ AW := aw3 126 (by decide +kernel) (by decide +kernel)
theorem q_607 : Cond.codeWith yL_grease cL_grease 4 (some .int) [(0, 9, 12, 21), (0, 9, 15, 15)] ∈ AW := aw3 127 (by decide +kernel) (by decide +kernel)
theorem q_608 : Cond.methodLink RL 35 yX5_grease ∈ AW := aw3 128 (by decide +kernel) (by decide +kernel)
theorem q_609 : Cond.instanceMethod yX5_grease ∈ AW := aw3 129 (by decide +kernel) (by decide +kernel)
theorem q_610 : Cond.selects RX5 yX5_grease yX5_grease ∈ AW := aw3 130 (by decide +kernel) (by decide +kernel)
theorem q_611 : Cond.code yX5_grease cX5_grease 3 (some .int) ∈ AW := aw3 131 (by decide +kernel) (by decide +kernel)
theorem q_612 : Cond.methodLink RX5 131 yX5_canGrease ∈ AW := aw3 132 (by decide +kernel) (by decide +kernel)
theorem q_614 : Cond.instanceMethod yX5_canGrease ∈ AW := aw3 134 (by decide +kernel) (by decide +kernel)
theorem q_615 : Cond.code yX5_canGrease cX5_canGrease 1 (some .boolean) ∈ AW := aw3 135 (by decide +kernel) (by decide +kernel)
theorem q_617 : Cond.methodLink RX5 137 yX5_makeGreased ∈ AW := aw3 137 (by decide +kernel) (by decide +kernel)
theorem q_619 : Cond.instanceMethod yX5_makeGreased ∈ AW := aw3 139 (by decide +kernel) (by decide +kernel)
theorem q_620 : Cond.code yX5_makeGreased cX5_makeGreased 2 none ∈ AW := aw3 140 (by decide +kernel) (by decide +kernel)
theorem q_621 : Cond.methodLink RX5 152 yX4_payCare ∈ AW := aw3 141 (by decide +kernel) (by decide +kernel)
theorem q_622 : Cond.instanceMethod yX4_payCare ∈ AW := aw3 142 (by decide +kernel) (by decide +kernel)
theorem q_623 : Cond.selects RX4 yX4_payCare yX4_payCare ∈ AW := aw3 143 (by decide +kernel) (by decide +kernel)
theorem q_624 : Cond.code yX4_payCare cX4_payCare 2 none ∈ AW := aw3 144 (by decide +kernel) (by decide +kernel)
theorem q_625 : Cond.methodLink RL 118 yL_mend ∈ AW := aw3 145 (by decide +kernel) (by decide +kernel)
theorem q_626 : Cond.static yL_mend ∈ AW := aw3 146 (by decide +kernel) (by decide +kernel)
theorem q_627 : Cond.codeWith yL_mend cL_mend 5 (some .int) [(0, 10, 13, 21), (0, 10, 17, 15)] ∈ AW := aw3 147 (by decide +kernel) (by decide +kernel)
theorem q_628 : Cond.methodLink RL 38 yX5_mend ∈ AW := aw3 148 (by decide +kernel) (by decide +kernel)
theorem q_629 : Cond.instanceMethod yX5_mend ∈ AW := aw3 149 (by decide +kernel) (by decide +kernel)
theorem q_630 : Cond.selects RX5 yX5_mend yX5_mend ∈ AW := aw3 150 (by decide +kernel) (by decide +kernel)
theorem q_631 : Cond.code yX5_mend cX5_mend 5 (some .int) ∈ AW := aw3 151 (by decide +kernel) (by decide +kernel)
theorem q_632 : Cond.methodLink RX5 141 yX5_checkTooth ∈ AW := aw3 152 (by decide +kernel) (by decide +kernel)
theorem q_633 : Cond.static yX5_checkTooth ∈ AW := aw3 153 (by decide +kernel) (by decide +kernel)
theorem q_634 : Cond.code yX5_checkTooth cX5_checkTooth 1 none ∈ AW := aw3 154 (by decide +kernel) (by decide +kernel)
theorem q_637 : Cond.methodLink RX5 155 yX0_setWear ∈ AW := aw3 157 (by decide +kernel) (by decide +kernel)
theorem q_638 : Cond.methodLink RL 121 yL_append ∈ AW := aw3 158 (by decide +kernel) (by decide +kernel)
theorem q_639 : Cond.static yL_append ∈ AW := aw3 159 (by decide +kernel) (by decide +kernel)
theorem q_640 : Cond.codeWith yL_append cL_append 4 (some .int) [(0, 9, 12, 13), (0, 9, 15, 15)] ∈ AW := aw3 160 (by decide +kernel) (by decide +kernel)
theorem q_641 : Cond.methodLink RL 41 yX5_append ∈ AW := aw3 161 (by decide +kernel) (by decide +kernel)
theorem q_642 : Cond.instanceMethod yX5_append ∈ AW := aw3 162 (by decide +kernel) (by decide +kernel)
theorem q_643 : Cond.selects RX5 yX5_append yX5_append ∈ AW := aw3 163 (by decide +kernel) (by decide +kernel)
theorem q_644 : Cond.code yX5_append cX5_append 2 (some .int) ∈ AW := aw3 164 (by decide +kernel) (by decide +kernel)
theorem q_647 : Cond.methodLink RL 132 yL_run ∈ AW := aw3 167 (by decide +kernel) (by decide +kernel)
theorem q_648 : Cond.static yL_run ∈ AW := aw3 168 (by decide +kernel) (by decide +kernel)
theorem q_649 : Cond.codeWith yL_run cL_run 3 (some .int) [(0, 8, 11, 13)] ∈ AW := aw3 169 (by decide +kernel) (by decide +kernel)
theorem q_650 : Cond.methodLink RL 44 yX5_run ∈ AW := aw3 170 (by decide +kernel) (by decide +kernel)
theorem q_651 : Cond.instanceMethod yX5_run ∈ AW := aw3 171 (by decide +kernel) (by decide +kernel)
theorem q_652 : Cond.selects RX5 yX5_run yX5_run ∈ AW := aw3 172 (by decide +kernel) (by decide +kernel)
theorem q_653 : Cond.code yX5_run cX5_run 2 (some .int) ∈ AW := aw3 173 (by decide +kernel) (by decide +kernel)
theorem q_654 : Cond.methodLink RX5 166 yX5_isProgram ∈ AW := aw3 174 (by decide +kernel) (by decide +kernel)
theorem q_656 : Cond.instanceMethod yX5_isProgram ∈ AW := aw3 176 (by decide +kernel) (by decide +kernel)
theorem q_657 : Cond.code yX5_isProgram cX5_isProgram 1 (some .boolean) ∈ AW := aw3 177 (by decide +kernel) (by decide +kernel)
theorem q_658 : Cond.methodLink RX5 295 yX2_isAtEndOfCommand ∈ AW := aw3 178 (by decide +kernel) (by decide +kernel)
theorem q_659 : Cond.instanceMethod yX2_isAtEndOfCommand ∈ AW := aw3 179 (by decide +kernel) (by decide +kernel)
theorem q_660 : Cond.selects RX2 yX2_isAtEndOfCommand yX2_isAtEndOfCommand ∈ AW := aw3 180 (by decide +kernel) (by decide +kernel)
theorem q_661 : Cond.code yX2_isAtEndOfCommand cX2_isAtEndOfCommand 1 (some .boolean) ∈ AW := aw3 181 (by decide +kernel) (by decide +kernel)
theorem q_663 : Cond.methodLink RX5 171 yX5_carryOutBuffer ∈ AW := aw3 183 (by decide +kernel) (by decide +kernel)
theorem q_665 : Cond.instanceMethod yX5_carryOutBuffer ∈ AW := aw3 185 (by decide +kernel) (by decide +kernel)
theorem q_666 : Cond.code yX5_carryOutBuffer cX5_carryOutBuffer 4 (some .int) ∈ AW := aw3 186 (by decide +kernel) (by decide +kernel)
theorem q_667 : Cond.methodLink RX5 298 yX5_carryOutCommand ∈ AW := aw3 187 (by decide +kernel) (by decide +kernel)
theorem q_669 : Cond.instanceMethod yX5_carryOutCommand ∈ AW := aw3 189 (by decide +kernel) (by decide +kernel)
theorem q_670 : Cond.code yX5_carryOutCommand cX5_carryOutCommand 2 (some .boolean) ∈ AW := aw3 190 (by decide +kernel) (by decide +kernel)
theorem q_671 : Cond.methodLink RL 136 yL_undo ∈ AW := aw3 191 (by decide +kernel) (by decide +kernel)
theorem q_672 : Cond.static yL_undo ∈ AW := aw3 192 (by decide +kernel) (by decide +kernel)
theorem q_673 : Cond.codeWith yL_undo cL_undo 3 (some .int) [(0, 8, 11, 15)] ∈ AW := aw3 193 (by decide +kernel) (by decide +kernel)
theorem q_674 : Cond.methodLink RL 48 yX5_undo ∈ AW := aw3 194 (by decide +kernel) (by decide +kernel)
theorem q_675 : Cond.instanceMethod yX5_undo ∈ AW := aw3 195 (by decide +kernel) (by decide +kernel)
theorem q_676 : Cond.selects RX5 yX5_undo yX5_undo ∈ AW := aw3 196 (by decide +kernel) (by decide +kernel)
theorem q_677 : Cond.code yX5_undo cX5_undo 1 (some .int) ∈ AW := aw3 197 (by decide +kernel) (by decide +kernel)
theorem q_679 : Cond.methodLink RX5 179 yX1_restoreInto ∈ AW := aw3 199 (by decide +kernel) (by decide +kernel)
theorem q_680 : Cond.instanceMethod yX1_restoreInto ∈ AW := aw3 200 (by decide +kernel) (by decide +kernel)
theorem q_681 : Cond.selects RX1 yX1_restoreInto yX1_restoreInto ∈ AW := aw3 201 (by decide +kernel) (by decide +kernel)
theorem q_682 : Cond.code yX1_restoreInto cX1_restoreInto 3 none ∈ AW := aw3 202 (by decide +kernel) (by decide +kernel)
theorem q_683 : Cond.methodLink RX1 39 yJ9_max_7cf53 ∈ AW := aw3 203 (by decide +kernel) (by decide +kernel)
theorem q_684 : Cond.methodLink RL 139 yL_axis ∈ AW := aw3 204 (by decide +kernel) (by decide +kernel)
theorem q_685 : Cond.static yL_axis ∈ AW := aw3 205 (by decide +kernel) (by decide +kernel)
theorem q_686 : Cond.codeWith yL_axis cL_axis 5 (some .int) [(0, 10, 13, 21), (0, 10, 17, 13)] ∈ AW := aw3 206 (by decide +kernel) (by decide +kernel)
theorem q_687 : Cond.methodLink RL 51 yX5_axis ∈ AW := aw3 207 (by decide +kernel) (by decide +kernel)
theorem q_688 : Cond.instanceMethod yX5_axis ∈ AW := aw3 208 (by decide +kernel) (by decide +kernel)
theorem q_689 : Cond.selects RX5 yX5_axis yX5_axis ∈ AW := aw3 209 (by decide +kernel) (by decide +kernel)
theorem q_690 : Cond.code yX5_axis cX5_axis 4 (some .int) ∈ AW := aw3 210 (by decide +kernel) (by decide +kernel)
theorem q_692 : Cond.methodLink RL 142 yL_wear ∈ AW := aw3 212 (by decide +kernel) (by decide +kernel)
theorem q_693 : Cond.static yL_wear ∈ AW := aw3 213 (by decide +kernel) (by decide +kernel)
theorem q_694 : Cond.codeWith yL_wear cL_wear 5 (some .int) [(0, 10, 13, 21)] ∈ AW := aw3 214 (by decide +kernel) (by decide +kernel)
theorem q_695 : Cond.methodLink RL 54 yX5_wear ∈ AW := aw3 215 (by decide +kernel) (by decide +kernel)
theorem q_696 : Cond.instanceMethod yX5_wear ∈ AW := aw3 216 (by decide +kernel) (by decide +kernel)
theorem q_697 : Cond.selects RX5 yX5_wear yX5_wear ∈ AW := aw3 217 (by decide +kernel) (by decide +kernel)
theorem q_698 : Cond.code yX5_wear cX5_wear 4 (some .int) ∈ AW := aw3 218 (by decide +kernel) (by decide +kernel)
theorem q_699 : Cond.methodLink RL 145 yL_count ∈ AW := aw3 219 (by decide +kernel) (by decide +kernel)
theorem q_700 : Cond.static yL_count ∈ AW := aw3 220 (by decide +kernel) (by decide +kernel)
theorem q_701 : Cond.codeWith yL_count cL_count 4 (some .int) [(0, 9, 12, 13)] ∈ AW := aw3 221 (by decide +kernel) (by decide +kernel)
theorem q_702 : Cond.methodLink RL 57 yX5_count ∈ AW := aw3 222 (by decide +kernel) (by decide +kernel)
theorem q_703 : Cond.instanceMethod yX5_count ∈ AW := aw3 223 (by decide +kernel) (by decide +kernel)
theorem q_704 : Cond.selects RX5 yX5_count yX5_count ∈ AW := aw3 224 (by decide +kernel) (by decide +kernel)
theorem q_705 : Cond.code yX5_count cX5_count 2 (some .int) ∈ AW := aw3 225 (by decide +kernel) (by decide +kernel)
theorem q_707 : Cond.methodLink RL 148 yL_setting ∈ AW := aw3 227 (by decide +kernel) (by decide +kernel)
theorem q_708 : Cond.static yL_setting ∈ AW := aw3 228 (by decide +kernel) (by decide +kernel)
theorem q_709 : Cond.codeWith yL_setting cL_setting 4 (some .int) [(0, 9, 12, 21)] ∈ AW := aw3 229 (by decide +kernel) (by decide +kernel)
theorem q_710 : Cond.methodLink RL 60 yX5_setting ∈ AW := aw3 230 (by decide +kernel) (by decide +kernel)
theorem q_711 : Cond.instanceMethod yX5_setting ∈ AW := aw3 231 (by decide +kernel) (by decide +kernel)
theorem q_712 : Cond.selects RX5 yX5_setting yX5_setting ∈ AW := aw3 232 (by decide +kernel) (by decide +kernel)
theorem q_713 : Cond.code yX5_setting cX5_setting 2 (some .int) ∈ AW := aw3 233 (by decide +kernel) (by decide +kernel)
theorem q_714 : Cond.methodLink RL 151 yL_toll ∈ AW := aw3 234 (by decide +kernel) (by decide +kernel)
theorem q_715 : Cond.static yL_toll ∈ AW := aw3 235 (by decide +kernel) (by decide +kernel)
theorem q_716 : Cond.codeWith yL_toll cL_toll 5 (some .int) [(0, 10, 13, 21)] ∈ AW := aw3 236 (by decide +kernel) (by decide +kernel)
theorem q_717 : Cond.methodLink RL 63 yX5_toll ∈ AW := aw3 237 (by decide +kernel) (by decide +kernel)
theorem q_718 : Cond.instanceMethod yX5_toll ∈ AW := aw3 238 (by decide +kernel) (by decide +kernel)
theorem q_719 : Cond.selects RX5 yX5_toll yX5_toll ∈ AW := aw3 239 (by decide +kernel) (by decide +kernel)
theorem q_720 : Cond.code yX5_toll cX5_toll 3 (some .int) ∈ AW := aw4 0 (by decide +kernel) (by decide +kernel)
theorem q_721 : Cond.methodLink RL 155 yL_slips ∈ AW := aw4 1 (by decide +kernel) (by decide +kernel)
theorem q_722 : Cond.static yL_slips ∈ AW := aw4 2 (by decide +kernel) (by decide +kernel)
theorem q_723 : Cond.codeWith yL_slips cL_slips 5 (some .int) [(0, 10, 13, 21)] ∈ AW := aw4 3 (by decide +kernel) (by decide +kernel)
theorem q_724 : Cond.methodLink RL 67 yX5_slips ∈ AW := aw4 4 (by decide +kernel) (by decide +kernel)
theorem q_725 : Cond.instanceMethod yX5_slips ∈ AW := aw4 5 (by decide +kernel) (by decide +kernel)
theorem q_726 : Cond.selects RX5 yX5_slips yX5_slips ∈ AW := aw4 6 (by decide +kernel) (by decide +kernel)
theorem q_727 : Cond.code yX5_slips cX5_slips 3 (some .int) ∈ AW := aw4 7 (by decide +kernel) (by decide +kernel)
theorem q_728 : Cond.methodLink RL 158 yL_cost ∈ AW := aw4 8 (by decide +kernel) (by decide +kernel)
theorem q_729 : Cond.static yL_cost ∈ AW := aw4 9 (by decide +kernel) (by decide +kernel)
theorem q_730 : Cond.codeWith yL_cost cL_cost 6 (some .int) [(0, 12, 15, 21), (0, 12, 19, 13)] ∈ AW := aw4 10 (by decide +kernel) (by decide +kernel)
theorem q_731 : Cond.methodLink RL 70 yX5_cost ∈ AW := aw4 11 (by decide +kernel) (by decide +kernel)
theorem q_732 : Cond.instanceMethod yX5_cost ∈ AW := aw4 12 (by decide +kernel) (by decide +kernel)
theorem q_733 : Cond.selects RX5 yX5_cost yX5_cost ∈ AW := aw4 13 (by decide +kernel) (by decide +kernel)
theorem q_734 : Cond.code yX5_cost cX5_cost 5 (some .int) ∈ AW := aw4 14 (by decide +kernel) (by decide +kernel)
theorem q_735 : Cond.methodLink RL 162 yL_ifHomed ∈ AW := aw4 15 (by decide +kernel) (by decide +kernel)
theorem q_736 : Cond.static yL_ifHomed ∈ AW := aw4 16 (by decide +kernel) (by decide +kernel)
theorem q_737 : Cond.codeWith yL_ifHomed cL_ifHomed 5 (some .int) [(0, 10, 13, 21), (0, 10, 17, 13)] ∈ AW := aw4 17 (by decide +kernel) (by decide +kernel)
theorem q_738 : Cond.methodLink RL 74 yX5_ifHomed ∈ AW := aw4 18 (by decide +kernel) (by decide +kernel)
theorem q_739 : Cond.instanceMethod yX5_ifHomed ∈ AW := aw4 19 (by decide +kernel) (by decide +kernel)
theorem q_740 : Cond.selects RX5 yX5_ifHomed yX5_ifHomed ∈ AW := aw4 20 (by decide +kernel) (by decide +kernel)
theorem q_741 : Cond.code yX5_ifHomed cX5_ifHomed 4 (some .int) ∈ AW := aw4 21 (by decide +kernel) (by decide +kernel)
theorem q_743 : Cond.methodLink RL 165 yL_reach ∈ AW := aw4 23 (by decide +kernel) (by decide +kernel)
theorem q_744 : Cond.static yL_reach ∈ AW := aw4 24 (by decide +kernel) (by decide +kernel)
theorem q_745 : Cond.codeWith yL_reach cL_reach 5 (some .int) [(0, 10, 13, 21)] ∈ AW := aw4 25 (by decide +kernel) (by decide +kernel)
theorem q_746 : Cond.methodLink RL 77 yX5_reach ∈ AW := aw4 26 (by decide +kernel) (by decide +kernel)
theorem q_747 : Cond.instanceMethod yX5_reach ∈ AW := aw4 27 (by decide +kernel) (by decide +kernel)
theorem q_748 : Cond.selects RX5 yX5_reach yX5_reach ∈ AW := aw4 28 (by decide +kernel) (by decide +kernel)
theorem q_749 : Cond.code yX5_reach cX5_reach 3 (some .int) ∈ AW := aw4 29 (by decide +kernel) (by decide +kernel)
theorem q_750 : Cond.methodLink RL 168 yL_couldBe ∈ AW := aw4 30 (by decide +kernel) (by decide +kernel)
theorem q_751 : Cond.static yL_couldBe ∈ AW := aw4 31 (by decide +kernel) (by decide +kernel)
theorem q_752 : Cond.codeWith yL_couldBe cL_couldBe 4 (some .int) [(0, 9, 12, 21)] ∈ AW := aw4 32 (by decide +kernel) (by decide +kernel)
theorem q_753 : Cond.methodLink RL 80 yX5_couldBe ∈ AW := aw4 33 (by decide +kernel) (by decide +kernel)
theorem q_754 : Cond.instanceMethod yX5_couldBe ∈ AW := aw4 34 (by decide +kernel) (by decide +kernel)
theorem q_755 : Cond.selects RX5 yX5_couldBe yX5_couldBe ∈ AW := aw4 35 (by decide +kernel) (by decide +kernel)
theorem q_756 : Cond.code yX5_couldBe cX5_couldBe 2 (some .int) ∈ AW := aw4 36 (by decide +kernel) (by decide +kernel)
theorem q_757 : Cond.methodLink RL 171 yL_worst ∈ AW := aw4 37 (by decide +kernel) (by decide +kernel)
theorem q_758 : Cond.static yL_worst ∈ AW := aw4 38 (by decide +kernel) (by decide +kernel)
theorem q_759 : Cond.codeWith yL_worst cL_worst 5 (some .int) [(0, 10, 13, 21), (0, 10, 17, 13)] ∈ AW := aw4 39 (by decide +kernel) (by decide +kernel)
theorem q_760 : Cond.methodLink RL 83 yX5_worst ∈ AW := aw4 40 (by decide +kernel) (by decide +kernel)
theorem q_761 : Cond.instanceMethod yX5_worst ∈ AW := aw4 41 (by decide +kernel) (by decide +kernel)
theorem q_762 : Cond.selects RX5 yX5_worst yX5_worst ∈ AW := aw4 42 (by decide +kernel) (by decide +kernel)
theorem q_763 : Cond.code yX5_worst cX5_worst 4 (some .int) ∈ AW := aw4 43 (by decide +kernel) (by decide +kernel)
theorem q_764 : Cond.classLink RL 87 RX6 ∈ AW := aw4 44 (by decide +kernel) (by decide +kernel)
theorem q_765 : Cond.instantiable RX6 13 ∈ AW := aw4 45 (by decide +kernel) (by decide +kernel)
theorem q_766 : Cond.methodLink RL 89 yX6_init ∈ AW := aw4 46 (by decide +kernel) (by decide +kernel)
theorem q_767 : Cond.instanceMethod yX6_init ∈ AW := aw4 47 (by decide +kernel) (by decide +kernel)
theorem q_768 : Cond.code yX6_init cX6_init 1 none ∈ AW := aw4 48 (by decide +kernel) (by decide +kernel)
theorem q_769 : Cond.methodLink RX6 1 ⟨"java/lang/Object", "<init>", "()V"⟩ ∈ AW := aw4 49 (by decide +kernel) (by decide +kernel)
theorem q_770 : Cond.fieldLink RX6 7 "ArmTollsModel" "z" "[I" ∈ AW := aw4 50 (by decide +kernel) (by decide +kernel)
theorem q_771 : Cond.fieldLink RX6 32 "ArmTollsModel" "states" "I" ∈ AW := aw4 51 (by decide +kernel) (by decide +kernel)
theorem q_772 : Cond.fieldLink RX6 13 "ArmTollsModel" "history" "[I" ∈ AW := aw4 52 (by decide +kernel) (by decide +kernel)
theorem q_773 : Cond.fieldLink RX6 127 "ArmTollsModel" "length" "I" ∈ AW := aw4 53 (by decide +kernel) (by decide +kernel)
theorem q_774 : Cond.fieldLink RX6 16 "ArmTollsModel" "text" "[I" ∈ AW := aw4 54 (by decide +kernel) (by decide +kernel)
theorem q_775 : Cond.fieldLink RX6 29 "ArmTollsModel" "thrown" "I" ∈ AW := aw4 55 (by decide +kernel) (by decide +kernel)
theorem q_776 : Cond.fieldLink RX6 19 "ArmTollsModel" "without" "I" ∈ AW := aw4 56 (by decide +kernel) (by decide +kernel)
theorem q_777 : Cond.fieldLink RX6 23 "ArmTollsModel" "parts" "[I" ∈ AW := aw4 57 (by decide +kernel) (by decide +kernel)
theorem q_778 : Cond.fieldLink RX6 130 "ArmTollsModel" "read" "I" ∈ AW := aw4 58 (by decide +kernel) (by decide +kernel)
theorem q_779 : Cond.fieldLink RX6 136 "ArmTollsModel" "number" "I" ∈ AW := aw4 59 (by decide +kernel) (by decide +kernel)
theorem q_780 : Cond.fieldLink RX6 133 "ArmTollsModel" "due" "I" ∈ AW := aw4 60 (by decide +kernel) (by decide +kernel)
theorem q_781 : Cond.fieldLink RX6 26 "ArmTollsModel" "kept" "[I" ∈ AW := aw4 61 (by decide +kernel) (by decide +kernel)
theorem q_782 : Cond.fieldLink RX6 207 "ArmTollsModel" "hash" "J" ∈ AW := aw4 62 (by decide +kernel) (by decide +kernel)
theorem q_810 : Cond.methodLink RL 96 yX6_thrown ∈ AW := aw4 90 (by decide +kernel) (by decide +kernel)
theorem q_811 : Cond.instanceMethod yX6_thrown ∈ AW := aw4 91 (by decide +kernel) (by decide +kernel)
theorem q_812 : Cond.selects RX6 yX6_thrown yX6_thrown ∈ AW := aw4 92 (by decide +kernel) (by decide +kernel)
theorem q_813 : Cond.code yX6_thrown cX6_thrown 1 (some .int) ∈ AW := aw4 93 (by decide +kernel) (by decide +kernel)
theorem q_814 : Cond.methodLink RL 95 yX6_earn ∈ AW := aw4 94 (by decide +kernel) (by decide +kernel)
theorem q_815 : Cond.instanceMethod yX6_earn ∈ AW := aw4 95 (by decide +kernel) (by decide +kernel)
theorem q_816 : Cond.selects RX6 yX6_earn yX6_earn ∈ AW := aw4 96 (by decide +kernel) (by decide +kernel)
theorem q_817 : Cond.code yX6_earn cX6_earn 2 (some .int) ∈ AW := aw4 97 (by decide +kernel) (by decide +kernel)
theorem q_818 : Cond.methodLink RX6 35 yX6_within ∈ AW := aw4 98 (by decide +kernel) (by decide +kernel)
theorem q_819 : Cond.static yX6_within ∈ AW := aw4 99 (by decide +kernel) (by decide +kernel)
theorem q_820 : Cond.code yX6_within cX6_within 3 (some .boolean) ∈ AW := aw4 100 (by decide +kernel) (by decide +kernel)
theorem q_821 : Cond.constant RX6 70 (100000) ∈ AW := aw4 101 (by decide +kernel) (by decide +kernel)
theorem q_822 : Cond.methodLink RX6 71 yX6_save ∈ AW := aw4 102 (by decide +kernel) (by decide +kernel)
theorem q_824 : Cond.instanceMethod yX6_save ∈ AW := aw4 104 (by decide +kernel) (by decide +kernel)
theorem q_825 : Cond.code yX6_save cX6_save 2 none ∈ AW := aw4 105 (by decide +kernel) (by decide +kernel)
theorem q_826 : Cond.methodLink RL 102 yX6_load ∈ AW := aw4 106 (by decide +kernel) (by decide +kernel)
theorem q_827 : Cond.instanceMethod yX6_load ∈ AW := aw4 107 (by decide +kernel) (by decide +kernel)
theorem q_828 : Cond.selects RX6 yX6_load yX6_load ∈ AW := aw4 108 (by decide +kernel) (by decide +kernel)
theorem q_829 : Cond.code yX6_load cX6_load 4 (some .int) ∈ AW := aw4 109 (by decide +kernel) (by decide +kernel)
theorem q_830 : Cond.methodLink RX6 74 yX6_isAxis ∈ AW := aw4 110 (by decide +kernel) (by decide +kernel)
theorem q_831 : Cond.static yX6_isAxis ∈ AW := aw4 111 (by decide +kernel) (by decide +kernel)
theorem q_832 : Cond.code yX6_isAxis cX6_isAxis 1 (some .boolean) ∈ AW := aw4 112 (by decide +kernel) (by decide +kernel)
theorem q_833 : Cond.methodLink RX6 39 yX6_of ∈ AW := aw4 113 (by decide +kernel) (by decide +kernel)
theorem q_835 : Cond.instanceMethod yX6_of ∈ AW := aw4 115 (by decide +kernel) (by decide +kernel)
theorem q_836 : Cond.code yX6_of cX6_of 3 (some .int) ∈ AW := aw4 116 (by decide +kernel) (by decide +kernel)
theorem q_837 : Cond.methodLink RX6 67 yX6_put ∈ AW := aw4 117 (by decide +kernel) (by decide +kernel)
theorem q_839 : Cond.instanceMethod yX6_put ∈ AW := aw4 119 (by decide +kernel) (by decide +kernel)
theorem q_840 : Cond.code yX6_put cX6_put 4 none ∈ AW := aw4 120 (by decide +kernel) (by decide +kernel)
theorem q_841 : Cond.methodLink RL 105 yX6_set ∈ AW := aw4 121 (by decide +kernel) (by decide +kernel)
theorem q_842 : Cond.instanceMethod yX6_set ∈ AW := aw4 122 (by decide +kernel) (by decide +kernel)
theorem q_843 : Cond.selects RX6 yX6_set yX6_set ∈ AW := aw4 123 (by decide +kernel) (by decide +kernel)
theorem q_844 : Cond.code yX6_set cX6_set 4 (some .int) ∈ AW := aw4 124 (by decide +kernel) (by decide +kernel)
theorem q_845 : Cond.methodLink RX6 78 yX6_isSetting ∈ AW := aw4 125 (by decide +kernel) (by decide +kernel)
theorem q_846 : Cond.static yX6_isSetting ∈ AW := aw4 126 (by decide +kernel) (by decide +kernel)
theorem q_847 : Cond.code yX6_isSetting cX6_isSetting 1 (some .boolean) ∈ AW := aw4 127 (by decide +kernel) (by decide +kernel)
theorem q_848 : Cond.methodLink RX6 81 yX6_isValue ∈ AW := aw4 128 (by decide +kernel) (by decide +kernel)
theorem q_849 : Cond.static yX6_isValue ∈ AW := aw4 129 (by decide +kernel) (by decide +kernel)
theorem q_850 : Cond.code yX6_isValue cX6_isValue 2 (some .boolean) ∈ AW := aw4 130 (by decide +kernel) (by decide +kernel)
theorem q_851 : Cond.methodLink RL 108 yX6_step ∈ AW := aw4 131 (by decide +kernel) (by decide +kernel)
theorem q_852 : Cond.instanceMethod yX6_step ∈ AW := aw4 132 (by decide +kernel) (by decide +kernel)
theorem q_853 : Cond.selects RX6 yX6_step yX6_step ∈ AW := aw4 133 (by decide +kernel) (by decide +kernel)
theorem q_854 : Cond.code yX6_step cX6_step 3 (some .int) ∈ AW := aw4 134 (by decide +kernel) (by decide +kernel)
theorem q_855 : Cond.methodLink RX6 89 yX6_canStep ∈ AW := aw4 135 (by decide +kernel) (by decide +kernel)
theorem q_857 : Cond.instanceMethod yX6_canStep ∈ AW := aw4 137 (by decide +kernel) (by decide +kernel)
theorem q_858 : Cond.code yX6_canStep cX6_canStep 3 (some .boolean) ∈ AW := aw4 138 (by decide +kernel) (by decide +kernel)
theorem q_859 : Cond.methodLink RX6 54 yX6_tollNow ∈ AW := aw4 139 (by decide +kernel) (by decide +kernel)
theorem q_861 : Cond.instanceMethod yX6_tollNow ∈ AW := aw4 141 (by decide +kernel) (by decide +kernel)
theorem q_862 : Cond.code yX6_tollNow cX6_tollNow 3 (some .int) ∈ AW := aw4 142 (by decide +kernel) (by decide +kernel)
theorem q_863 : Cond.methodLink RX6 47 yX6_nextTooth ∈ AW := aw4 143 (by decide +kernel) (by decide +kernel)
theorem q_865 : Cond.instanceMethod yX6_nextTooth ∈ AW := aw4 145 (by decide +kernel) (by decide +kernel)
theorem q_866 : Cond.code yX6_nextTooth cX6_nextTooth 3 (some .int) ∈ AW := aw4 146 (by decide +kernel) (by decide +kernel)
theorem q_867 : Cond.methodLink RX6 43 yX6_toothFrom ∈ AW := aw4 147 (by decide +kernel) (by decide +kernel)
theorem q_868 : Cond.static yX6_toothFrom ∈ AW := aw4 148 (by decide +kernel) (by decide +kernel)
theorem q_869 : Cond.code yX6_toothFrom cX6_toothFrom 2 (some .int) ∈ AW := aw4 149 (by decide +kernel) (by decide +kernel)
theorem q_870 : Cond.methodLink RX6 50 yX6_tollBy ∈ AW := aw4 150 (by decide +kernel) (by decide +kernel)
theorem q_872 : Cond.instanceMethod yX6_tollBy ∈ AW := aw4 152 (by decide +kernel) (by decide +kernel)
theorem q_873 : Cond.code yX6_tollBy cX6_tollBy 5 (some .int) ∈ AW := aw4 153 (by decide +kernel) (by decide +kernel)
theorem q_874 : Cond.methodLink RX6 92 yX6_makeSteps ∈ AW := aw4 154 (by decide +kernel) (by decide +kernel)
theorem q_876 : Cond.instanceMethod yX6_makeSteps ∈ AW := aw4 156 (by decide +kernel) (by decide +kernel)
theorem q_877 : Cond.code yX6_makeSteps cX6_makeSteps 5 (some .int) ∈ AW := aw4 157 (by decide +kernel) (by decide +kernel)
theorem q_878 : Cond.methodLink RX6 85 yX6_steps ∈ AW := aw4 158 (by decide +kernel) (by decide +kernel)
theorem q_880 : Cond.instanceMethod yX6_steps ∈ AW := aw4 160 (by decide +kernel) (by decide +kernel)
theorem q_881 : Cond.code yX6_steps cX6_steps 7 (some .boolean) ∈ AW := aw4 161 (by decide +kernel) (by decide +kernel)
theorem q_882 : Cond.methodLink RX6 57 yX6_slipNow ∈ AW := aw4 162 (by decide +kernel) (by decide +kernel)
theorem q_884 : Cond.instanceMethod yX6_slipNow ∈ AW := aw4 164 (by decide +kernel) (by decide +kernel)
theorem q_885 : Cond.code yX6_slipNow cX6_slipNow 4 (some .int) ∈ AW := aw4 165 (by decide +kernel) (by decide +kernel)
theorem q_886 : Cond.methodLink RX6 60 yX6_add ∈ AW := aw4 166 (by decide +kernel) (by decide +kernel)
theorem q_888 : Cond.instanceMethod yX6_add ∈ AW := aw4 168 (by decide +kernel) (by decide +kernel)
theorem q_889 : Cond.code yX6_add cX6_add 4 none ∈ AW := aw4 169 (by decide +kernel) (by decide +kernel)
theorem q_890 : Cond.methodLink RX6 64 yX6_next ∈ AW := aw4 170 (by decide +kernel) (by decide +kernel)
theorem q_891 : Cond.static yX6_next ∈ AW := aw4 171 (by decide +kernel) (by decide +kernel)
theorem q_892 : Cond.code yX6_next cX6_next 2 (some .int) ∈ AW := aw4 172 (by decide +kernel) (by decide +kernel)
theorem q_893 : Cond.methodLink RL 111 yX6_go ∈ AW := aw4 173 (by decide +kernel) (by decide +kernel)
theorem q_894 : Cond.instanceMethod yX6_go ∈ AW := aw4 174 (by decide +kernel) (by decide +kernel)
theorem q_895 : Cond.selects RX6 yX6_go yX6_go ∈ AW := aw4 175 (by decide +kernel) (by decide +kernel)
theorem q_896 : Cond.code yX6_go cX6_go 3 (some .int) ∈ AW := aw4 176 (by decide +kernel) (by decide +kernel)
theorem q_897 : Cond.methodLink RX6 103 yX6_isPlace ∈ AW := aw4 177 (by decide +kernel) (by decide +kernel)
theorem q_898 : Cond.static yX6_isPlace ∈ AW := aw4 178 (by decide +kernel) (by decide +kernel)
theorem q_899 : Cond.code yX6_isPlace cX6_isPlace 1 (some .boolean) ∈ AW := aw4 179 (by decide +kernel) (by decide +kernel)
theorem q_900 : Cond.methodLink RX6 106 yX6_canGo ∈ AW := aw4 180 (by decide +kernel) (by decide +kernel)
theorem q_902 : Cond.instanceMethod yX6_canGo ∈ AW := aw4 182 (by decide +kernel) (by decide +kernel)
theorem q_903 : Cond.code yX6_canGo cX6_canGo 3 (some .boolean) ∈ AW := aw4 183 (by decide +kernel) (by decide +kernel)
theorem q_904 : Cond.methodLink RX6 100 yX6_goesUp ∈ AW := aw4 184 (by decide +kernel) (by decide +kernel)
theorem q_906 : Cond.instanceMethod yX6_goesUp ∈ AW := aw4 186 (by decide +kernel) (by decide +kernel)
theorem q_907 : Cond.code yX6_goesUp cX6_goesUp 3 (some .boolean) ∈ AW := aw4 187 (by decide +kernel) (by decide +kernel)
theorem q_908 : Cond.methodLink RX6 96 yX6_costNow ∈ AW := aw4 188 (by decide +kernel) (by decide +kernel)
theorem q_910 : Cond.instanceMethod yX6_costNow ∈ AW := aw4 190 (by decide +kernel) (by decide +kernel)
theorem q_911 : Cond.code yX6_costNow cX6_costNow 8 (some .int) ∈ AW := aw4 191 (by decide +kernel) (by decide +kernel)
theorem q_912 : Cond.methodLink RX6 109 yX6_goes ∈ AW := aw4 192 (by decide +kernel) (by decide +kernel)
theorem q_914 : Cond.instanceMethod yX6_goes ∈ AW := aw4 194 (by decide +kernel) (by decide +kernel)
theorem q_915 : Cond.code yX6_goes cX6_goes 6 (some .int) ∈ AW := aw4 195 (by decide +kernel) (by decide +kernel)
theorem q_916 : Cond.methodLink RL 114 yX6_home ∈ AW := aw4 196 (by decide +kernel) (by decide +kernel)
theorem q_917 : Cond.instanceMethod yX6_home ∈ AW := aw4 197 (by decide +kernel) (by decide +kernel)
theorem q_918 : Cond.selects RX6 yX6_home yX6_home ∈ AW := aw4 198 (by decide +kernel) (by decide +kernel)
theorem q_919 : Cond.code yX6_home cX6_home 2 (some .int) ∈ AW := aw4 199 (by decide +kernel) (by decide +kernel)
theorem q_920 : Cond.methodLink RX6 112 yX6_homes ∈ AW := aw4 200 (by decide +kernel) (by decide +kernel)
theorem q_922 : Cond.instanceMethod yX6_homes ∈ AW := aw4 202 (by decide +kernel) (by decide +kernel)
theorem q_923 : Cond.code yX6_homes cX6_homes 3 (some .int) ∈ AW := aw4 203 (by decide +kernel) (by decide +kernel)
theorem q_924 : Cond.methodLink RL 117 yX6_grease ∈ AW := aw4 204 (by decide +kernel) (by decide +kernel)
theorem q_925 : Cond.instanceMethod yX6_grease ∈ AW := aw4 205 (by decide +kernel) (by decide +kernel)
theorem q_926 : Cond.selects RX6 yX6_grease yX6_grease ∈ AW := aw4 206 (by decide +kernel) (by decide +kernel)
theorem q_927 : Cond.code yX6_grease cX6_grease 2 (some .int) ∈ AW := aw4 207 (by decide +kernel) (by decide +kernel)
theorem q_928 : Cond.methodLink RX6 120 yX6_canGrease ∈ AW := aw4 208 (by decide +kernel) (by decide +kernel)
theorem q_930 : Cond.instanceMethod yX6_canGrease ∈ AW := aw4 210 (by decide +kernel) (by decide +kernel)
theorem q_931 : Cond.code yX6_canGrease cX6_canGrease 1 (some .boolean) ∈ AW := aw4 211 (by decide +kernel) (by decide +kernel)
theorem q_932 : Cond.methodLink RX6 124 yX6_greases ∈ AW := aw4 212 (by decide +kernel) (by decide +kernel)
theorem q_934 : Cond.instanceMethod yX6_greases ∈ AW := aw4 214 (by decide +kernel) (by decide +kernel)
theorem q_935 : Cond.code yX6_greases cX6_greases 2 none ∈ AW := aw4 215 (by decide +kernel) (by decide +kernel)
theorem q_936 : Cond.methodLink RX6 116 yX6_pay ∈ AW := aw4 216 (by decide +kernel) (by decide +kernel)
theorem q_938 : Cond.instanceMethod yX6_pay ∈ AW := aw4 218 (by decide +kernel) (by decide +kernel)
theorem q_939 : Cond.code yX6_pay cX6_pay 2 none ∈ AW := aw4 219 (by decide +kernel) (by decide +kernel)
theorem q_940 : Cond.methodLink RL 120 yX6_mend ∈ AW := aw4 220 (by decide +kernel) (by decide +kernel)
theorem q_941 : Cond.instanceMethod yX6_mend ∈ AW := aw4 221 (by decide +kernel) (by decide +kernel)
theorem q_942 : Cond.selects RX6 yX6_mend yX6_mend ∈ AW := aw4 222 (by decide +kernel) (by decide +kernel)
theorem q_943 : Cond.code yX6_mend cX6_mend 4 (some .int) ∈ AW := aw4 223 (by decide +kernel) (by decide +kernel)
theorem q_944 : Cond.methodLink RL 123 yX6_append ∈ AW := aw4 224 (by decide +kernel) (by decide +kernel)
theorem q_945 : Cond.instanceMethod yX6_append ∈ AW := aw4 225 (by decide +kernel) (by decide +kernel)
theorem q_946 : Cond.selects RX6 yX6_append yX6_append ∈ AW := aw4 226 (by decide +kernel) (by decide +kernel)
theorem q_947 : Cond.code yX6_append cX6_append 2 (some .int) ∈ AW := aw4 227 (by decide +kernel) (by decide +kernel)
theorem q_948 : Cond.methodLink RL 127 yX6_clearBuffer ∈ AW := aw4 228 (by decide +kernel) (by decide +kernel)
theorem q_949 : Cond.instanceMethod yX6_clearBuffer ∈ AW := aw4 229 (by decide +kernel) (by decide +kernel)
theorem q_950 : Cond.selects RX6 yX6_clearBuffer yX6_clearBuffer ∈ AW := aw4 230 (by decide +kernel) (by decide +kernel)
theorem q_951 : Cond.code yX6_clearBuffer cX6_clearBuffer 2 (some .int) ∈ AW := aw4 231 (by decide +kernel) (by decide +kernel)
theorem q_952 : Cond.methodLink RL 131 yX6_firstError ∈ AW := aw4 232 (by decide +kernel) (by decide +kernel)
theorem q_953 : Cond.instanceMethod yX6_firstError ∈ AW := aw4 233 (by decide +kernel) (by decide +kernel)
theorem q_954 : Cond.selects RX6 yX6_firstError yX6_firstError ∈ AW := aw4 234 (by decide +kernel) (by decide +kernel)
theorem q_955 : Cond.code yX6_firstError cX6_firstError 1 (some .int) ∈ AW := aw4 235 (by decide +kernel) (by decide +kernel)
theorem q_956 : Cond.methodLink RX6 154 yX6_rightUpTo ∈ AW := aw4 236 (by decide +kernel) (by decide +kernel)
theorem q_958 : Cond.instanceMethod yX6_rightUpTo ∈ AW := aw4 238 (by decide +kernel) (by decide +kernel)
theorem q_959 : Cond.code yX6_rightUpTo cX6_rightUpTo 2 (some .int) ∈ AW := aw4 239 (by decide +kernel) (by decide +kernel)
theorem q_960 : Cond.methodLink RX6 151 yX6_takes ∈ AW := aw5 0 (by decide +kernel) (by decide +kernel)
theorem q_962 : Cond.instanceMethod yX6_takes ∈ AW := aw5 2 (by decide +kernel) (by decide +kernel)
theorem q_963 : Cond.code yX6_takes cX6_takes 2 (some .boolean) ∈ AW := aw5 3 (by decide +kernel) (by decide +kernel)
theorem q_964 : Cond.methodLink RX6 139 yX6_takesSign ∈ AW := aw5 4 (by decide +kernel) (by decide +kernel)
theorem q_966 : Cond.instanceMethod yX6_takesSign ∈ AW := aw5 6 (by decide +kernel) (by decide +kernel)
theorem q_967 : Cond.code yX6_takesSign cX6_takesSign 2 (some .boolean) ∈ AW := aw5 7 (by decide +kernel) (by decide +kernel)
theorem q_968 : Cond.methodLink RX6 142 yX6_isEnded ∈ AW := aw5 8 (by decide +kernel) (by decide +kernel)
theorem q_970 : Cond.instanceMethod yX6_isEnded ∈ AW := aw5 10 (by decide +kernel) (by decide +kernel)
theorem q_971 : Cond.code yX6_isEnded cX6_isEnded 1 (some .boolean) ∈ AW := aw5 11 (by decide +kernel) (by decide +kernel)
theorem q_972 : Cond.methodLink RX6 145 yX6_endCommand ∈ AW := aw5 12 (by decide +kernel) (by decide +kernel)
theorem q_974 : Cond.instanceMethod yX6_endCommand ∈ AW := aw5 14 (by decide +kernel) (by decide +kernel)
theorem q_975 : Cond.code yX6_endCommand cX6_endCommand 1 none ∈ AW := aw5 15 (by decide +kernel) (by decide +kernel)
theorem q_976 : Cond.methodLink RX6 148 yX6_takesDigit ∈ AW := aw5 16 (by decide +kernel) (by decide +kernel)
theorem q_978 : Cond.instanceMethod yX6_takesDigit ∈ AW := aw5 18 (by decide +kernel) (by decide +kernel)
theorem q_979 : Cond.code yX6_takesDigit cX6_takesDigit 5 (some .boolean) ∈ AW := aw5 19 (by decide +kernel) (by decide +kernel)
theorem q_980 : Cond.methodLink RL 135 yX6_run ∈ AW := aw5 20 (by decide +kernel) (by decide +kernel)
theorem q_981 : Cond.instanceMethod yX6_run ∈ AW := aw5 21 (by decide +kernel) (by decide +kernel)
theorem q_982 : Cond.selects RX6 yX6_run yX6_run ∈ AW := aw5 22 (by decide +kernel) (by decide +kernel)
theorem q_983 : Cond.code yX6_run cX6_run 3 (some .int) ∈ AW := aw5 23 (by decide +kernel) (by decide +kernel)
theorem q_984 : Cond.methodLink RX6 158 yX6_carries ∈ AW := aw5 24 (by decide +kernel) (by decide +kernel)
theorem q_986 : Cond.instanceMethod yX6_carries ∈ AW := aw5 26 (by decide +kernel) (by decide +kernel)
theorem q_987 : Cond.code yX6_carries cX6_carries 7 (some .boolean) ∈ AW := aw5 27 (by decide +kernel) (by decide +kernel)
theorem q_988 : Cond.methodLink RL 138 yX6_undo ∈ AW := aw5 28 (by decide +kernel) (by decide +kernel)
theorem q_989 : Cond.instanceMethod yX6_undo ∈ AW := aw5 29 (by decide +kernel) (by decide +kernel)
theorem q_990 : Cond.selects RX6 yX6_undo yX6_undo ∈ AW := aw5 30 (by decide +kernel) (by decide +kernel)
theorem q_991 : Cond.code yX6_undo cX6_undo 2 (some .int) ∈ AW := aw5 31 (by decide +kernel) (by decide +kernel)
theorem q_992 : Cond.methodLink RL 141 yX6_axis ∈ AW := aw5 32 (by decide +kernel) (by decide +kernel)
theorem q_993 : Cond.instanceMethod yX6_axis ∈ AW := aw5 33 (by decide +kernel) (by decide +kernel)
theorem q_994 : Cond.selects RX6 yX6_axis yX6_axis ∈ AW := aw5 34 (by decide +kernel) (by decide +kernel)
theorem q_995 : Cond.code yX6_axis cX6_axis 3 (some .int) ∈ AW := aw5 35 (by decide +kernel) (by decide +kernel)
theorem q_996 : Cond.methodLink RX6 164 yX6_axisNow ∈ AW := aw5 36 (by decide +kernel) (by decide +kernel)
theorem q_998 : Cond.instanceMethod yX6_axisNow ∈ AW := aw5 38 (by decide +kernel) (by decide +kernel)
theorem q_999 : Cond.code yX6_axisNow cX6_axisNow 3 (some .int) ∈ AW := aw5 39 (by decide +kernel) (by decide +kernel)
theorem q_1000 : Cond.methodLink RX6 161 yX6_apart ∈ AW := aw5 40 (by decide +kernel) (by decide +kernel)
theorem q_1001 : Cond.static yX6_apart ∈ AW := aw5 41 (by decide +kernel) (by decide +kernel)
theorem q_1002 : Cond.code yX6_apart cX6_apart 3 (some .int) ∈ AW := aw5 42 (by decide +kernel) (by decide +kernel)
theorem q_1003 : Cond.methodLink RL 144 yX6_wear ∈ AW := aw5 43 (by decide +kernel) (by decide +kernel)
theorem q_1004 : Cond.instanceMethod yX6_wear ∈ AW := aw5 44 (by decide +kernel) (by decide +kernel)
theorem q_1005 : Cond.selects RX6 yX6_wear yX6_wear ∈ AW := aw5 45 (by decide +kernel) (by decide +kernel)
theorem q_1006 : Cond.code yX6_wear cX6_wear 3 (some .int) ∈ AW := aw5 46 (by decide +kernel) (by decide +kernel)
theorem q_1007 : Cond.methodLink RL 147 yX6_count ∈ AW := aw5 47 (by decide +kernel) (by decide +kernel)
theorem q_1008 : Cond.instanceMethod yX6_count ∈ AW := aw5 48 (by decide +kernel) (by decide +kernel)
theorem q_1009 : Cond.selects RX6 yX6_count yX6_count ∈ AW := aw5 49 (by decide +kernel) (by decide +kernel)
theorem q_1010 : Cond.code yX6_count cX6_count 2 (some .int) ∈ AW := aw5 50 (by decide +kernel) (by decide +kernel)
theorem q_1011 : Cond.methodLink RX6 177 yX6_counted ∈ AW := aw5 51 (by decide +kernel) (by decide +kernel)
theorem q_1013 : Cond.instanceMethod yX6_counted ∈ AW := aw5 53 (by decide +kernel) (by decide +kernel)
theorem q_1014 : Cond.code yX6_counted cX6_counted 2 (some .int) ∈ AW := aw5 54 (by decide +kernel) (by decide +kernel)
theorem q_1015 : Cond.methodLink RX6 167 yX6_sumOf ∈ AW := aw5 55 (by decide +kernel) (by decide +kernel)
theorem q_1017 : Cond.instanceMethod yX6_sumOf ∈ AW := aw5 57 (by decide +kernel) (by decide +kernel)
theorem q_1018 : Cond.code yX6_sumOf cX6_sumOf 4 (some .int) ∈ AW := aw5 58 (by decide +kernel) (by decide +kernel)
theorem q_1019 : Cond.methodLink RX6 170 yX6_wearOf ∈ AW := aw5 59 (by decide +kernel) (by decide +kernel)
theorem q_1021 : Cond.instanceMethod yX6_wearOf ∈ AW := aw5 61 (by decide +kernel) (by decide +kernel)
theorem q_1022 : Cond.code yX6_wearOf cX6_wearOf 5 (some .int) ∈ AW := aw5 62 (by decide +kernel) (by decide +kernel)
theorem q_1023 : Cond.methodLink RX6 174 yX6_rightAxes ∈ AW := aw5 63 (by decide +kernel) (by decide +kernel)
theorem q_1025 : Cond.instanceMethod yX6_rightAxes ∈ AW := aw5 65 (by decide +kernel) (by decide +kernel)
theorem q_1026 : Cond.code yX6_rightAxes cX6_rightAxes 3 (some .int) ∈ AW := aw5 66 (by decide +kernel) (by decide +kernel)
theorem q_1027 : Cond.methodLink RL 150 yX6_setting ∈ AW := aw5 67 (by decide +kernel) (by decide +kernel)
theorem q_1028 : Cond.instanceMethod yX6_setting ∈ AW := aw5 68 (by decide +kernel) (by decide +kernel)
theorem q_1029 : Cond.selects RX6 yX6_setting yX6_setting ∈ AW := aw5 69 (by decide +kernel) (by decide +kernel)
theorem q_1030 : Cond.code yX6_setting cX6_setting 2 (some .int) ∈ AW := aw5 70 (by decide +kernel) (by decide +kernel)
theorem q_1031 : Cond.methodLink RL 154 yX6_toll ∈ AW := aw5 71 (by decide +kernel) (by decide +kernel)
theorem q_1032 : Cond.instanceMethod yX6_toll ∈ AW := aw5 72 (by decide +kernel) (by decide +kernel)
theorem q_1033 : Cond.selects RX6 yX6_toll yX6_toll ∈ AW := aw5 73 (by decide +kernel) (by decide +kernel)
theorem q_1034 : Cond.code yX6_toll cX6_toll 3 (some .int) ∈ AW := aw5 74 (by decide +kernel) (by decide +kernel)
theorem q_1035 : Cond.methodLink RL 157 yX6_slips ∈ AW := aw5 75 (by decide +kernel) (by decide +kernel)
theorem q_1036 : Cond.instanceMethod yX6_slips ∈ AW := aw5 76 (by decide +kernel) (by decide +kernel)
theorem q_1037 : Cond.selects RX6 yX6_slips yX6_slips ∈ AW := aw5 77 (by decide +kernel) (by decide +kernel)
theorem q_1038 : Cond.code yX6_slips cX6_slips 3 (some .int) ∈ AW := aw5 78 (by decide +kernel) (by decide +kernel)
theorem q_1039 : Cond.methodLink RL 161 yX6_cost ∈ AW := aw5 79 (by decide +kernel) (by decide +kernel)
theorem q_1040 : Cond.instanceMethod yX6_cost ∈ AW := aw5 80 (by decide +kernel) (by decide +kernel)
theorem q_1041 : Cond.selects RX6 yX6_cost yX6_cost ∈ AW := aw5 81 (by decide +kernel) (by decide +kernel)
theorem q_1042 : Cond.code yX6_cost cX6_cost 4 (some .int) ∈ AW := aw5 82 (by decide +kernel) (by decide +kernel)
theorem q_1043 : Cond.methodLink RL 164 yX6_ifHomed ∈ AW := aw5 83 (by decide +kernel) (by decide +kernel)
theorem q_1044 : Cond.instanceMethod yX6_ifHomed ∈ AW := aw5 84 (by decide +kernel) (by decide +kernel)
theorem q_1045 : Cond.selects RX6 yX6_ifHomed yX6_ifHomed ∈ AW := aw5 85 (by decide +kernel) (by decide +kernel)
theorem q_1046 : Cond.code yX6_ifHomed cX6_ifHomed 3 (some .int) ∈ AW := aw5 86 (by decide +kernel) (by decide +kernel)
theorem q_1047 : Cond.methodLink RX6 186 yX6_homedThen ∈ AW := aw5 87 (by decide +kernel) (by decide +kernel)
theorem q_1049 : Cond.instanceMethod yX6_homedThen ∈ AW := aw5 89 (by decide +kernel) (by decide +kernel)
theorem q_1050 : Cond.code yX6_homedThen cX6_homedThen 7 (some .int) ∈ AW := aw5 90 (by decide +kernel) (by decide +kernel)
theorem q_1051 : Cond.methodLink RX6 180 yX6_keep ∈ AW := aw5 91 (by decide +kernel) (by decide +kernel)
theorem q_1053 : Cond.instanceMethod yX6_keep ∈ AW := aw5 93 (by decide +kernel) (by decide +kernel)
theorem q_1054 : Cond.code yX6_keep cX6_keep 2 none ∈ AW := aw5 94 (by decide +kernel) (by decide +kernel)
theorem q_1055 : Cond.methodLink RX6 183 yX6_layBack ∈ AW := aw5 95 (by decide +kernel) (by decide +kernel)
theorem q_1057 : Cond.instanceMethod yX6_layBack ∈ AW := aw5 97 (by decide +kernel) (by decide +kernel)
theorem q_1058 : Cond.code yX6_layBack cX6_layBack 2 none ∈ AW := aw5 98 (by decide +kernel) (by decide +kernel)
theorem q_1059 : Cond.methodLink RL 167 yX6_reach ∈ AW := aw5 99 (by decide +kernel) (by decide +kernel)
theorem q_1060 : Cond.instanceMethod yX6_reach ∈ AW := aw5 100 (by decide +kernel) (by decide +kernel)
theorem q_1061 : Cond.selects RX6 yX6_reach yX6_reach ∈ AW := aw5 101 (by decide +kernel) (by decide +kernel)
theorem q_1062 : Cond.code yX6_reach cX6_reach 3 (some .int) ∈ AW := aw5 102 (by decide +kernel) (by decide +kernel)
theorem q_1063 : Cond.methodLink RX6 189 yX6_reachNow ∈ AW := aw5 103 (by decide +kernel) (by decide +kernel)
theorem q_1065 : Cond.instanceMethod yX6_reachNow ∈ AW := aw5 105 (by decide +kernel) (by decide +kernel)
theorem q_1066 : Cond.code yX6_reachNow cX6_reachNow 4 (some .int) ∈ AW := aw5 106 (by decide +kernel) (by decide +kernel)
theorem q_1067 : Cond.methodLink RL 170 yX6_couldBe ∈ AW := aw5 107 (by decide +kernel) (by decide +kernel)
theorem q_1068 : Cond.instanceMethod yX6_couldBe ∈ AW := aw5 108 (by decide +kernel) (by decide +kernel)
theorem q_1069 : Cond.selects RX6 yX6_couldBe yX6_couldBe ∈ AW := aw5 109 (by decide +kernel) (by decide +kernel)
theorem q_1070 : Cond.code yX6_couldBe cX6_couldBe 2 (some .int) ∈ AW := aw5 110 (by decide +kernel) (by decide +kernel)
theorem q_1071 : Cond.methodLink RX6 192 yX6_couldBeNow ∈ AW := aw5 111 (by decide +kernel) (by decide +kernel)
theorem q_1073 : Cond.instanceMethod yX6_couldBeNow ∈ AW := aw5 113 (by decide +kernel) (by decide +kernel)
theorem q_1074 : Cond.code yX6_couldBeNow cX6_couldBeNow 4 (some .int) ∈ AW := aw5 114 (by decide +kernel) (by decide +kernel)
theorem q_1075 : Cond.methodLink RL 173 yX6_worst ∈ AW := aw5 115 (by decide +kernel) (by decide +kernel)
theorem q_1076 : Cond.instanceMethod yX6_worst ∈ AW := aw5 116 (by decide +kernel) (by decide +kernel)
theorem q_1077 : Cond.selects RX6 yX6_worst yX6_worst ∈ AW := aw5 117 (by decide +kernel) (by decide +kernel)
theorem q_1078 : Cond.code yX6_worst cX6_worst 3 (some .int) ∈ AW := aw5 118 (by decide +kernel) (by decide +kernel)
theorem q_1079 : Cond.methodLink RX6 198 yX6_worstNow ∈ AW := aw5 119 (by decide +kernel) (by decide +kernel)
theorem q_1081 : Cond.instanceMethod yX6_worstNow ∈ AW := aw5 121 (by decide +kernel) (by decide +kernel)
theorem q_1082 : Cond.code yX6_worstNow cX6_worstNow 7 (some .int) ∈ AW := aw5 122 (by decide +kernel) (by decide +kernel)
theorem q_1083 : Cond.methodLink RX6 195 yX6_lesserCost ∈ AW := aw5 123 (by decide +kernel) (by decide +kernel)
theorem q_1085 : Cond.instanceMethod yX6_lesserCost ∈ AW := aw5 125 (by decide +kernel) (by decide +kernel)
theorem q_1086 : Cond.code yX6_lesserCost cX6_lesserCost 5 (some .int) ∈ AW := aw5 126 (by decide +kernel) (by decide +kernel)
theorem q_1087 : Cond.methodLink RL 178 yX6_meanToll ∈ AW := aw5 127 (by decide +kernel) (by decide +kernel)
theorem q_1088 : Cond.instanceMethod yX6_meanToll ∈ AW := aw5 128 (by decide +kernel) (by decide +kernel)
theorem q_1089 : Cond.selects RX6 yX6_meanToll yX6_meanToll ∈ AW := aw5 129 (by decide +kernel) (by decide +kernel)
theorem q_1090 : Cond.code yX6_meanToll cX6_meanToll 1 (some .double) ∈ AW := aw5 130 (by decide +kernel) (by decide +kernel)
theorem q_1091 : Cond.methodLink RX6 201 yX6_mean ∈ AW := aw5 131 (by decide +kernel) (by decide +kernel)
theorem q_1093 : Cond.instanceMethod yX6_mean ∈ AW := aw5 133 (by decide +kernel) (by decide +kernel)
theorem q_1094 : Cond.code yX6_mean cX6_mean 2 (some .double) ∈ AW := aw5 134 (by decide +kernel) (by decide +kernel)
theorem q_1095 : Cond.methodLink RL 183 yX6_digest ∈ AW := aw5 135 (by decide +kernel) (by decide +kernel)
theorem q_1096 : Cond.instanceMethod yX6_digest ∈ AW := aw5 136 (by decide +kernel) (by decide +kernel)
theorem q_1097 : Cond.selects RX6 yX6_digest yX6_digest ∈ AW := aw5 137 (by decide +kernel) (by decide +kernel)
theorem q_1098 : Cond.code yX6_digest cX6_digest 2 (some .long) ∈ AW := aw5 138 (by decide +kernel) (by decide +kernel)
theorem q_1099 : Cond.constantLong RX6 215 (2417) ∈ AW := aw5 139 (by decide +kernel) (by decide +kernel)
theorem q_1100 : Cond.methodLink RX6 211 yX6_mix ∈ AW := aw5 140 (by decide +kernel) (by decide +kernel)
theorem q_1102 : Cond.instanceMethod yX6_mix ∈ AW := aw5 142 (by decide +kernel) (by decide +kernel)
theorem q_1103 : Cond.code yX6_mix cX6_mix 3 none ∈ AW := aw5 143 (by decide +kernel) (by decide +kernel)
theorem q_1104 : Cond.constantLong RX6 205 (31) ∈ AW := aw5 144 (by decide +kernel) (by decide +kernel)
theorem q_1105 : Cond.methodLink RX6 217 yX6_mixAxis ∈ AW := aw5 145 (by decide +kernel) (by decide +kernel)
theorem q_1107 : Cond.instanceMethod yX6_mixAxis ∈ AW := aw5 147 (by decide +kernel) (by decide +kernel)
theorem q_1108 : Cond.code yX6_mixAxis cX6_mixAxis 3 none ∈ AW := aw5 148 (by decide +kernel) (by decide +kernel)
theorem q_1109 : Cond.methodLink RX6 220 yJxe99ae_doubleToLongBits_ccdee ∈ AW := aw5 149 (by decide +kernel) (by decide +kernel)
theorem q_1110 : Cond.static yJxe99ae_doubleToLongBits_ccdee ∈ AW := aw5 150 (by decide +kernel) (by decide +kernel)
theorem q_1111 : Cond.code yJxe99ae_doubleToLongBits_ccdee cJxe99ae_doubleToLongBits_ccdee 2 (some .long) ∈ AW := aw5 151 (by decide +kernel) (by decide +kernel)
theorem q_1112 : Cond.methodLink RJxe99ae 122 yJxe99ae_isNaN_b9ae7 ∈ AW := aw5 152 (by decide +kernel) (by decide +kernel)
theorem q_1113 : Cond.static yJxe99ae_isNaN_b9ae7 ∈ AW := aw5 153 (by decide +kernel) (by decide +kernel)
theorem q_1114 : Cond.code yJxe99ae_isNaN_b9ae7 cJxe99ae_isNaN_b9ae7 2 (some .boolean) ∈ AW := aw5 154 (by decide +kernel) (by decide +kernel)
theorem q_1115 : Cond.methodLink RJxe99ae 134 ⟨"java/lang/Double", "doubleToRawLongBits", "(D)J"⟩ ∈ AW := aw5 155 (by decide +kernel) (by decide +kernel)
theorem q_1118 : Cond.constantLong RJxe99ae 137 (9221120237041090560) ∈ AW := aw5 158 (by decide +kernel) (by decide +kernel)
theorem q_1119 : Cond.arrayClass .long ∈ AW := aw5 159 (by decide +kernel) (by decide +kernel)
theorem qp_0 : Cond.selects RX5 yX5_indexOfSyntaxError yX5_indexOfSyntaxError ∈ AW := aw0 0 (by decide +kernel) (by decide +kernel)
theorem qp_1 : Cond.selects RX5 yX5_codeAt yX5_codeAt ∈ AW := aw0 1 (by decide +kernel) (by decide +kernel)
theorem qp_2 : Cond.selects RX5 yX5_countOf yX5_countOf ∈ AW := aw0 2 (by decide +kernel) (by decide +kernel)
theorem qp_3 : Cond.selects RX5 yX5_mixedWithForecasts yX5_mixedWithForecasts ∈ AW := aw0 3 (by decide +kernel) (by decide +kernel)
theorem qp_4 : Cond.selects RX5 yX5_turnAndSlip yX5_turnAndSlip ∈ AW := aw0 4 (by decide +kernel) (by decide +kernel)
theorem qp_5 : Cond.selects RX5 yX5_homingFact yX5_homingFact ∈ AW := aw0 5 (by decide +kernel) (by decide +kernel)
theorem qp_6 : Cond.selects RX5 yX5_reachOf yX5_reachOf ∈ AW := aw0 6 (by decide +kernel) (by decide +kernel)
theorem qp_7 : Cond.selects RX5 yX5_worstTooth yX5_worstTooth ∈ AW := aw0 7 (by decide +kernel) (by decide +kernel)
theorem qp_8 : Cond.selects RX5 yX5_lesserCost yX5_lesserCost ∈ AW := aw0 8 (by decide +kernel) (by decide +kernel)
theorem qp_10 : Cond.selects RX5 yX5_gearOf yX5_gearOf ∈ AW := aw0 10 (by decide +kernel) (by decide +kernel)
theorem qp_11 : Cond.selects RX5 yX5_canStep yX5_canStep ∈ AW := aw0 11 (by decide +kernel) (by decide +kernel)
theorem qp_12 : Cond.selects RX5 yX5_makeSteps yX5_makeSteps ∈ AW := aw0 12 (by decide +kernel) (by decide +kernel)
theorem qp_13 : Cond.selects RX5 yX5_canGo yX5_canGo ∈ AW := aw0 13 (by decide +kernel) (by decide +kernel)
theorem qp_14 : Cond.selects RX5 yX5_cheaperWay yX5_cheaperWay ∈ AW := aw0 14 (by decide +kernel) (by decide +kernel)
theorem qp_15 : Cond.selects RX5 yX5_goTo yX5_goTo ∈ AW := aw0 15 (by decide +kernel) (by decide +kernel)
theorem qp_16 : Cond.selects RX5 yX5_makeHomed yX5_makeHomed ∈ AW := aw0 16 (by decide +kernel) (by decide +kernel)
theorem qp_17 : Cond.selects RX5 yX5_canGrease yX5_canGrease ∈ AW := aw0 17 (by decide +kernel) (by decide +kernel)
theorem qp_18 : Cond.selects RX5 yX5_makeGreased yX5_makeGreased ∈ AW := aw0 18 (by decide +kernel) (by decide +kernel)
theorem qp_19 : Cond.selects RX5 yX5_isProgram yX5_isProgram ∈ AW := aw0 19 (by decide +kernel) (by decide +kernel)
theorem qp_20 : Cond.selects RX5 yX5_carryOutBuffer yX5_carryOutBuffer ∈ AW := aw0 20 (by decide +kernel) (by decide +kernel)
theorem qp_21 : Cond.selects RX5 yX5_carryOutCommand yX5_carryOutCommand ∈ AW := aw0 21 (by decide +kernel) (by decide +kernel)
theorem qp_22 : Cond.selects RX6 yX6_save yX6_save ∈ AW := aw0 22 (by decide +kernel) (by decide +kernel)
theorem qp_23 : Cond.selects RX6 yX6_of yX6_of ∈ AW := aw0 23 (by decide +kernel) (by decide +kernel)
theorem qp_24 : Cond.selects RX6 yX6_put yX6_put ∈ AW := aw0 24 (by decide +kernel) (by decide +kernel)
theorem qp_25 : Cond.selects RX6 yX6_canStep yX6_canStep ∈ AW := aw0 25 (by decide +kernel) (by decide +kernel)
theorem qp_26 : Cond.selects RX6 yX6_tollNow yX6_tollNow ∈ AW := aw0 26 (by decide +kernel) (by decide +kernel)
theorem qp_27 : Cond.selects RX6 yX6_nextTooth yX6_nextTooth ∈ AW := aw0 27 (by decide +kernel) (by decide +kernel)
theorem qp_28 : Cond.selects RX6 yX6_tollBy yX6_tollBy ∈ AW := aw0 28 (by decide +kernel) (by decide +kernel)
theorem qp_29 : Cond.selects RX6 yX6_makeSteps yX6_makeSteps ∈ AW := aw0 29 (by decide +kernel) (by decide +kernel)
theorem qp_30 : Cond.selects RX6 yX6_steps yX6_steps ∈ AW := aw0 30 (by decide +kernel) (by decide +kernel)
theorem qp_31 : Cond.selects RX6 yX6_slipNow yX6_slipNow ∈ AW := aw0 31 (by decide +kernel) (by decide +kernel)
theorem qp_32 : Cond.selects RX6 yX6_add yX6_add ∈ AW := aw0 32 (by decide +kernel) (by decide +kernel)
theorem qp_33 : Cond.selects RX6 yX6_canGo yX6_canGo ∈ AW := aw0 33 (by decide +kernel) (by decide +kernel)
theorem qp_34 : Cond.selects RX6 yX6_goesUp yX6_goesUp ∈ AW := aw0 34 (by decide +kernel) (by decide +kernel)
theorem qp_35 : Cond.selects RX6 yX6_costNow yX6_costNow ∈ AW := aw0 35 (by decide +kernel) (by decide +kernel)
theorem qp_36 : Cond.selects RX6 yX6_goes yX6_goes ∈ AW := aw0 36 (by decide +kernel) (by decide +kernel)
theorem qp_37 : Cond.selects RX6 yX6_homes yX6_homes ∈ AW := aw0 37 (by decide +kernel) (by decide +kernel)
theorem qp_38 : Cond.selects RX6 yX6_canGrease yX6_canGrease ∈ AW := aw0 38 (by decide +kernel) (by decide +kernel)
theorem qp_39 : Cond.selects RX6 yX6_greases yX6_greases ∈ AW := aw0 39 (by decide +kernel) (by decide +kernel)
theorem qp_40 : Cond.selects RX6 yX6_pay yX6_pay ∈ AW := aw0 40 (by decide +kernel) (by decide +kernel)
theorem qp_41 : Cond.selects RX6 yX6_rightUpTo yX6_rightUpTo ∈ AW := aw0 41 (by decide +kernel) (by decide +kernel)
theorem qp_42 : Cond.selects RX6 yX6_takes yX6_takes ∈ AW := aw0 42 (by decide +kernel) (by decide +kernel)
theorem qp_43 : Cond.selects RX6 yX6_takesSign yX6_takesSign ∈ AW := aw0 43 (by decide +kernel) (by decide +kernel)
theorem qp_44 : Cond.selects RX6 yX6_isEnded yX6_isEnded ∈ AW := aw0 44 (by decide +kernel) (by decide +kernel)
theorem qp_45 : Cond.selects RX6 yX6_endCommand yX6_endCommand ∈ AW := aw0 45 (by decide +kernel) (by decide +kernel)
theorem qp_46 : Cond.selects RX6 yX6_takesDigit yX6_takesDigit ∈ AW := aw0 46 (by decide +kernel) (by decide +kernel)
theorem qp_47 : Cond.selects RX6 yX6_carries yX6_carries ∈ AW := aw0 47 (by decide +kernel) (by decide +kernel)
theorem qp_48 : Cond.selects RX6 yX6_axisNow yX6_axisNow ∈ AW := aw0 48 (by decide +kernel) (by decide +kernel)
theorem qp_49 : Cond.selects RX6 yX6_counted yX6_counted ∈ AW := aw0 49 (by decide +kernel) (by decide +kernel)
theorem qp_50 : Cond.selects RX6 yX6_sumOf yX6_sumOf ∈ AW := aw0 50 (by decide +kernel) (by decide +kernel)
theorem qp_51 : Cond.selects RX6 yX6_wearOf yX6_wearOf ∈ AW := aw0 51 (by decide +kernel) (by decide +kernel)
theorem qp_52 : Cond.selects RX6 yX6_rightAxes yX6_rightAxes ∈ AW := aw0 52 (by decide +kernel) (by decide +kernel)
theorem qp_53 : Cond.selects RX6 yX6_homedThen yX6_homedThen ∈ AW := aw0 53 (by decide +kernel) (by decide +kernel)
theorem qp_54 : Cond.selects RX6 yX6_keep yX6_keep ∈ AW := aw0 54 (by decide +kernel) (by decide +kernel)
theorem qp_55 : Cond.selects RX6 yX6_layBack yX6_layBack ∈ AW := aw0 55 (by decide +kernel) (by decide +kernel)
theorem qp_56 : Cond.selects RX6 yX6_reachNow yX6_reachNow ∈ AW := aw0 56 (by decide +kernel) (by decide +kernel)
theorem qp_57 : Cond.selects RX6 yX6_couldBeNow yX6_couldBeNow ∈ AW := aw0 57 (by decide +kernel) (by decide +kernel)
theorem qp_58 : Cond.selects RX6 yX6_worstNow yX6_worstNow ∈ AW := aw0 58 (by decide +kernel) (by decide +kernel)
theorem qp_59 : Cond.selects RX6 yX6_lesserCost yX6_lesserCost ∈ AW := aw0 59 (by decide +kernel) (by decide +kernel)
theorem qp_60 : Cond.selects RX6 yX6_mean yX6_mean ∈ AW := aw0 60 (by decide +kernel) (by decide +kernel)
theorem qp_61 : Cond.selects RX6 yX6_mix yX6_mix ∈ AW := aw0 61 (by decide +kernel) (by decide +kernel)
theorem qp_62 : Cond.selects RX6 yX6_mixAxis yX6_mixAxis ∈ AW := aw0 62 (by decide +kernel) (by decide +kernel)
theorem inX0 : ∀ w ∈ u_ws RX0 TX0 12, w ∈ AW := aw_all (by decide +kernel)
theorem inX1 : ∀ w ∈ u_ws RX1 TX1 3, w ∈ AW := aw_all (by decide +kernel)
theorem inX2 : ∀ w ∈ u_ws RX2 TX2 4, w ∈ AW := aw_all (by decide +kernel)
theorem inX3 : ∀ w ∈ u_ws RX3 TX3 6, w ∈ AW := aw_all (by decide +kernel)
theorem inX4 : ∀ w ∈ u_ws RX4 TX4 4, w ∈ AW := aw_all (by decide +kernel)
theorem inX5 : ∀ w ∈ u_ws RX5 TX5 6, w ∈ AW := aw_all (by decide +kernel)
theorem inX6 : ∀ w ∈ u_ws RX6 TX6 13, w ∈ AW := aw_all (by decide +kernel)
end
section
theorem dX0_init_0 : decode cX0_init 0 = .ok (.aload_n 0, 1) := by decide +kernel
theorem dX0_init_1 : decode cX0_init 1 = .ok (.invokespecial 3, 3) := by decide +kernel
theorem dX0_init_4 : decode cX0_init 4 = .ok (.aload_n 0, 1) := by decide +kernel
theorem dX0_init_5 : decode cX0_init 5 = .ok (.bipush 24, 2) := by decide +kernel
theorem dX0_init_7 : decode cX0_init 7 = .ok (.newarray .int, 2) := by decide +kernel
theorem dX0_init_9 : decode cX0_init 9 = .ok (.putfield 9, 3) := by decide +kernel
theorem dX0_init_12 : decode cX0_init 12 = .ok (.aload_n 0, 1) := by decide +kernel
theorem dX0_init_13 : decode cX0_init 13 = .ok (.iconst 0, 1) := by decide +kernel
theorem dX0_init_14 : decode cX0_init 14 = .ok (.putfield 15, 3) := by decide +kernel
theorem dX0_init_17 : decode cX0_init 17 = .ok (.aload_n 0, 1) := by decide +kernel
theorem dX0_init_18 : decode cX0_init 18 = .ok (.iconst 0, 1) := by decide +kernel
theorem dX0_init_19 : decode cX0_init 19 = .ok (.putfield 19, 3) := by decide +kernel
theorem dX0_init_22 : decode cX0_init 22 = .ok (.aload_n 0, 1) := by decide +kernel
theorem dX0_init_23 : decode cX0_init 23 = .ok (.iconst 0, 1) := by decide +kernel
theorem dX0_init_24 : decode cX0_init 24 = .ok (.putfield 22, 3) := by decide +kernel
theorem dX0_init_27 : decode cX0_init 27 = .ok (.aload_n 0, 1) := by decide +kernel
theorem dX0_init_28 : decode cX0_init 28 = .ok (.iconst 0, 1) := by decide +kernel
theorem dX0_init_29 : decode cX0_init 29 = .ok (.putfield 25, 3) := by decide +kernel
theorem dX0_init_32 : decode cX0_init 32 = .ok (.aload_n 0, 1) := by decide +kernel
theorem dX0_init_33 : decode cX0_init 33 = .ok (.iconst 0, 1) := by decide +kernel
theorem dX0_init_34 : decode cX0_init 34 = .ok (.putfield 28, 3) := by decide +kernel
theorem dX0_init_37 : decode cX0_init 37 = .ok (.aload_n 0, 1) := by decide +kernel
theorem dX0_init_38 : decode cX0_init 38 = .ok (.iconst 0, 1) := by decide +kernel
theorem dX0_init_39 : decode cX0_init 39 = .ok (.putfield 31, 3) := by decide +kernel
theorem dX0_init_42 : decode cX0_init 42 = .ok (.aload_n 0, 1) := by decide +kernel
theorem dX0_init_43 : decode cX0_init 43 = .ok (.iconst 0, 1) := by decide +kernel
theorem dX0_init_44 : decode cX0_init 44 = .ok (.putfield 34, 3) := by decide +kernel
theorem dX0_init_47 : decode cX0_init 47 = .ok (.aload_n 0, 1) := by decide +kernel
theorem dX0_init_48 : decode cX0_init 48 = .ok (.iconst 0, 1) := by decide +kernel
theorem dX0_init_49 : decode cX0_init 49 = .ok (.putfield 37, 3) := by decide +kernel
theorem dX0_init_52 : decode cX0_init 52 = .ok (.aload_n 0, 1) := by decide +kernel
theorem dX0_init_53 : decode cX0_init 53 = .ok (.iconst 0, 1) := by decide +kernel
theorem dX0_init_54 : decode cX0_init 54 = .ok (.putfield 40, 3) := by decide +kernel
theorem dX0_init_57 : decode cX0_init 57 = .ok (.aload_n 0, 1) := by decide +kernel
theorem dX0_init_58 : decode cX0_init 58 = .ok (.iconst 0, 1) := by decide +kernel
theorem dX0_init_59 : decode cX0_init 59 = .ok (.putfield 43, 3) := by decide +kernel
theorem dX0_init_62 : decode cX0_init 62 = .ok (.aload_n 0, 1) := by decide +kernel
theorem dX0_init_63 : decode cX0_init 63 = .ok (.iconst 0, 1) := by decide +kernel
theorem dX0_init_64 : decode cX0_init 64 = .ok (.putfield 46, 3) := by decide +kernel
theorem dX0_init_67 : decode cX0_init 67 = .ok (.return_, 1) := by decide +kernel
theorem dX0_nextPlace_0 : decode cX0_nextPlace 0 = .ok (.iload_n 0, 1) := by decide +kernel
theorem dX0_nextPlace_1 : decode cX0_nextPlace 1 = .ok (.iload_n 1, 1) := by decide +kernel
theorem dX0_nextPlace_2 : decode cX0_nextPlace 2 = .ok (.iadd, 1) := by decide +kernel
theorem dX0_nextPlace_3 : decode cX0_nextPlace 3 = .ok (.istore_n 2, 1) := by decide +kernel
theorem dX0_nextPlace_4 : decode cX0_nextPlace 4 = .ok (.iload_n 2, 1) := by decide +kernel
theorem dX0_nextPlace_5 : decode cX0_nextPlace 5 = .ok (.ifCond .ge 6, 3) := by decide +kernel
theorem dX0_nextPlace_8 : decode cX0_nextPlace 8 = .ok (.bipush 23, 2) := by decide +kernel
theorem dX0_nextPlace_10 : decode cX0_nextPlace 10 = .ok (.ireturn, 1) := by decide +kernel
theorem dX0_nextPlace_11 : decode cX0_nextPlace 11 = .ok (.iload_n 2, 1) := by decide +kernel
theorem dX0_nextPlace_12 : decode cX0_nextPlace 12 = .ok (.bipush 24, 2) := by decide +kernel
theorem dX0_nextPlace_14 : decode cX0_nextPlace 14 = .ok (.if_icmp .ge 7, 3) := by decide +kernel
theorem dX0_nextPlace_17 : decode cX0_nextPlace 17 = .ok (.iload_n 2, 1) := by decide +kernel
theorem dX0_nextPlace_18 : decode cX0_nextPlace 18 = .ok (.goto 4, 3) := by decide +kernel
theorem dX0_nextPlace_21 : decode cX0_nextPlace 21 = .ok (.iconst 0, 1) := by decide +kernel
theorem dX0_nextPlace_22 : decode cX0_nextPlace 22 = .ok (.ireturn, 1) := by decide +kernel
theorem dX0_toothBy_0 : decode cX0_toothBy 0 = .ok (.iload_n 1, 1) := by decide +kernel
theorem dX0_toothBy_1 : decode cX0_toothBy 1 = .ok (.iconst 1, 1) := by decide +kernel
theorem dX0_toothBy_2 : decode cX0_toothBy 2 = .ok (.if_icmp .ne 5, 3) := by decide +kernel
theorem dX0_toothBy_5 : decode cX0_toothBy 5 = .ok (.iload_n 0, 1) := by decide +kernel
theorem dX0_toothBy_6 : decode cX0_toothBy 6 = .ok (.ireturn, 1) := by decide +kernel
theorem dX0_toothBy_7 : decode cX0_toothBy 7 = .ok (.iload_n 0, 1) := by decide +kernel
theorem dX0_toothBy_8 : decode cX0_toothBy 8 = .ok (.ifCond .le 9, 3) := by decide +kernel
theorem dX0_toothBy_11 : decode cX0_toothBy 11 = .ok (.iload_n 0, 1) := by decide +kernel
theorem dX0_toothBy_12 : decode cX0_toothBy 12 = .ok (.iconst 1, 1) := by decide +kernel
theorem dX0_toothBy_13 : decode cX0_toothBy 13 = .ok (.isub, 1) := by decide +kernel
theorem dX0_toothBy_14 : decode cX0_toothBy 14 = .ok (.goto 5, 3) := by decide +kernel
theorem dX0_toothBy_17 : decode cX0_toothBy 17 = .ok (.bipush 23, 2) := by decide +kernel
theorem dX0_toothBy_19 : decode cX0_toothBy 19 = .ok (.ireturn, 1) := by decide +kernel
theorem dX0_distance_0 : decode cX0_distance 0 = .ok (.iload_n 1, 1) := by decide +kernel
theorem dX0_distance_1 : decode cX0_distance 1 = .ok (.iload_n 0, 1) := by decide +kernel
theorem dX0_distance_2 : decode cX0_distance 2 = .ok (.isub, 1) := by decide +kernel
theorem dX0_distance_3 : decode cX0_distance 3 = .ok (.bipush 24, 2) := by decide +kernel
theorem dX0_distance_5 : decode cX0_distance 5 = .ok (.invokestatic 49, 3) := by decide +kernel
theorem dX0_distance_8 : decode cX0_distance 8 = .ok (.istore_n 2, 1) := by decide +kernel
theorem dX0_distance_9 : decode cX0_distance 9 = .ok (.iload_n 2, 1) := by decide +kernel
theorem dX0_distance_10 : decode cX0_distance 10 = .ok (.bipush 24, 2) := by decide +kernel
theorem dX0_distance_12 : decode cX0_distance 12 = .ok (.iload_n 2, 1) := by decide +kernel
theorem dX0_distance_13 : decode cX0_distance 13 = .ok (.isub, 1) := by decide +kernel
theorem dX0_distance_14 : decode cX0_distance 14 = .ok (.invokestatic 55, 3) := by decide +kernel
theorem dX0_distance_17 : decode cX0_distance 17 = .ok (.ireturn, 1) := by decide +kernel
theorem dX0_wearOf_0 : decode cX0_wearOf 0 = .ok (.iload_n 1, 1) := by decide +kernel
theorem dX0_wearOf_1 : decode cX0_wearOf 1 = .ok (.ifCond .lt 21, 3) := by decide +kernel
theorem dX0_wearOf_4 : decode cX0_wearOf 4 = .ok (.iload_n 1, 1) := by decide +kernel
theorem dX0_wearOf_5 : decode cX0_wearOf 5 = .ok (.aload_n 0, 1) := by decide +kernel
theorem dX0_wearOf_6 : decode cX0_wearOf 6 = .ok (.getfield 9, 3) := by decide +kernel
theorem dX0_wearOf_9 : decode cX0_wearOf 9 = .ok (.arraylength, 1) := by decide +kernel
theorem dX0_wearOf_10 : decode cX0_wearOf 10 = .ok (.if_icmp .ge 12, 3) := by decide +kernel
theorem dX0_wearOf_13 : decode cX0_wearOf 13 = .ok (.aload_n 0, 1) := by decide +kernel
theorem dX0_wearOf_14 : decode cX0_wearOf 14 = .ok (.getfield 9, 3) := by decide +kernel
theorem dX0_wearOf_17 : decode cX0_wearOf 17 = .ok (.iload_n 1, 1) := by decide +kernel
theorem dX0_wearOf_18 : decode cX0_wearOf 18 = .ok (.iaload, 1) := by decide +kernel
theorem dX0_wearOf_19 : decode cX0_wearOf 19 = .ok (.goto 4, 3) := by decide +kernel
theorem dX0_wearOf_22 : decode cX0_wearOf 22 = .ok (.iconst 0, 1) := by decide +kernel
theorem dX0_wearOf_23 : decode cX0_wearOf 23 = .ok (.ireturn, 1) := by decide +kernel
theorem dX0_setWear_0 : decode cX0_setWear 0 = .ok (.iload_n 1, 1) := by decide +kernel
theorem dX0_setWear_1 : decode cX0_setWear 1 = .ok (.ifCond .lt 19, 3) := by decide +kernel
theorem dX0_setWear_4 : decode cX0_setWear 4 = .ok (.iload_n 1, 1) := by decide +kernel
theorem dX0_setWear_5 : decode cX0_setWear 5 = .ok (.aload_n 0, 1) := by decide +kernel
theorem dX0_setWear_6 : decode cX0_setWear 6 = .ok (.getfield 9, 3) := by decide +kernel
theorem dX0_setWear_9 : decode cX0_setWear 9 = .ok (.arraylength, 1) := by decide +kernel
theorem dX0_setWear_10 : decode cX0_setWear 10 = .ok (.if_icmp .ge 10, 3) := by decide +kernel
theorem dX0_setWear_13 : decode cX0_setWear 13 = .ok (.aload_n 0, 1) := by decide +kernel
theorem dX0_setWear_14 : decode cX0_setWear 14 = .ok (.getfield 9, 3) := by decide +kernel
theorem dX0_setWear_17 : decode cX0_setWear 17 = .ok (.iload_n 1, 1) := by decide +kernel
theorem dX0_setWear_18 : decode cX0_setWear 18 = .ok (.iload_n 2, 1) := by decide +kernel
theorem dX0_setWear_19 : decode cX0_setWear 19 = .ok (.iastore, 1) := by decide +kernel
theorem dX0_setWear_20 : decode cX0_setWear 20 = .ok (.return_, 1) := by decide +kernel
theorem dX0_tollWith_0 : decode cX0_tollWith 0 = .ok (.iconst 1, 1) := by decide +kernel
theorem dX0_tollWith_1 : decode cX0_tollWith 1 = .ok (.aload_n 0, 1) := by decide +kernel
theorem dX0_tollWith_2 : decode cX0_tollWith 2 = .ok (.getfield 22, 3) := by decide +kernel
theorem dX0_tollWith_5 : decode cX0_tollWith 5 = .ok (.iadd, 1) := by decide +kernel
theorem dX0_tollWith_6 : decode cX0_tollWith 6 = .ok (.istore 4, 2) := by decide +kernel
theorem dX0_tollWith_8 : decode cX0_tollWith 8 = .ok (.aload_n 3, 1) := by decide +kernel
theorem dX0_tollWith_9 : decode cX0_tollWith 9 = .ok (.getfield 58, 3) := by decide +kernel
theorem dX0_tollWith_12 : decode cX0_tollWith 12 = .ok (.ifCond .le 14, 3) := by decide +kernel
theorem dX0_tollWith_15 : decode cX0_tollWith 15 = .ok (.iload 4, 2) := by decide +kernel
theorem dX0_tollWith_17 : decode cX0_tollWith 17 = .ok (.iload_n 1, 1) := by decide +kernel
theorem dX0_tollWith_18 : decode cX0_tollWith 18 = .ok (.aload_n 3, 1) := by decide +kernel
theorem dX0_tollWith_19 : decode cX0_tollWith 19 = .ok (.getfield 58, 3) := by decide +kernel
theorem dX0_tollWith_22 : decode cX0_tollWith 22 = .ok (.idiv, 1) := by decide +kernel
theorem dX0_tollWith_23 : decode cX0_tollWith 23 = .ok (.iadd, 1) := by decide +kernel
theorem dX0_tollWith_24 : decode cX0_tollWith 24 = .ok (.istore 4, 2) := by decide +kernel
theorem dX0_tollWith_26 : decode cX0_tollWith 26 = .ok (.iload_n 2, 1) := by decide +kernel
theorem dX0_tollWith_27 : decode cX0_tollWith 27 = .ok (.ifCond .le 12, 3) := by decide +kernel
theorem dX0_tollWith_30 : decode cX0_tollWith 30 = .ok (.iload 4, 2) := by decide +kernel
theorem dX0_tollWith_32 : decode cX0_tollWith 32 = .ok (.iconst 1, 1) := by decide +kernel
theorem dX0_tollWith_33 : decode cX0_tollWith 33 = .ok (.iadd, 1) := by decide +kernel
theorem dX0_tollWith_34 : decode cX0_tollWith 34 = .ok (.iconst 2, 1) := by decide +kernel
theorem dX0_tollWith_35 : decode cX0_tollWith 35 = .ok (.idiv, 1) := by decide +kernel
theorem dX0_tollWith_36 : decode cX0_tollWith 36 = .ok (.goto 5, 3) := by decide +kernel
theorem dX0_tollWith_39 : decode cX0_tollWith 39 = .ok (.iload 4, 2) := by decide +kernel
theorem dX0_tollWith_41 : decode cX0_tollWith 41 = .ok (.ireturn, 1) := by decide +kernel
theorem dX0_tollOfStep_0 : decode cX0_tollOfStep 0 = .ok (.aload_n 0, 1) := by decide +kernel
theorem dX0_tollOfStep_1 : decode cX0_tollOfStep 1 = .ok (.aload_n 0, 1) := by decide +kernel
theorem dX0_tollOfStep_2 : decode cX0_tollOfStep 2 = .ok (.aload_n 0, 1) := by decide +kernel
theorem dX0_tollOfStep_3 : decode cX0_tollOfStep 3 = .ok (.getfield 15, 3) := by decide +kernel
theorem dX0_tollOfStep_6 : decode cX0_tollOfStep 6 = .ok (.iload_n 1, 1) := by decide +kernel
theorem dX0_tollOfStep_7 : decode cX0_tollOfStep 7 = .ok (.invokestatic 63, 3) := by decide +kernel
theorem dX0_tollOfStep_10 : decode cX0_tollOfStep 10 = .ok (.invokevirtual 66, 3) := by decide +kernel
theorem dX0_tollOfStep_13 : decode cX0_tollOfStep 13 = .ok (.aload_n 0, 1) := by decide +kernel
theorem dX0_tollOfStep_14 : decode cX0_tollOfStep 14 = .ok (.getfield 31, 3) := by decide +kernel
theorem dX0_tollOfStep_17 : decode cX0_tollOfStep 17 = .ok (.aload_n 2, 1) := by decide +kernel
theorem dX0_tollOfStep_18 : decode cX0_tollOfStep 18 = .ok (.invokevirtual 70, 3) := by decide +kernel
theorem dX0_tollOfStep_21 : decode cX0_tollOfStep 21 = .ok (.ireturn, 1) := by decide +kernel
theorem dX0_isTurn_0 : decode cX0_isTurn 0 = .ok (.aload_n 0, 1) := by decide +kernel
theorem dX0_isTurn_1 : decode cX0_isTurn 1 = .ok (.getfield 25, 3) := by decide +kernel
theorem dX0_isTurn_4 : decode cX0_isTurn 4 = .ok (.iload_n 1, 1) := by decide +kernel
theorem dX0_isTurn_5 : decode cX0_isTurn 5 = .ok (.ineg, 1) := by decide +kernel
theorem dX0_isTurn_6 : decode cX0_isTurn 6 = .ok (.if_icmp .ne 7, 3) := by decide +kernel
theorem dX0_isTurn_9 : decode cX0_isTurn 9 = .ok (.iconst 1, 1) := by decide +kernel
theorem dX0_isTurn_10 : decode cX0_isTurn 10 = .ok (.goto 4, 3) := by decide +kernel
theorem dX0_isTurn_13 : decode cX0_isTurn 13 = .ok (.iconst 0, 1) := by decide +kernel
theorem dX0_isTurn_14 : decode cX0_isTurn 14 = .ok (.ireturn, 1) := by decide +kernel
theorem dX0_makeStep_0 : decode cX0_makeStep 0 = .ok (.aload_n 0, 1) := by decide +kernel
theorem dX0_makeStep_1 : decode cX0_makeStep 1 = .ok (.getfield 15, 3) := by decide +kernel
theorem dX0_makeStep_4 : decode cX0_makeStep 4 = .ok (.iload_n 1, 1) := by decide +kernel
theorem dX0_makeStep_5 : decode cX0_makeStep 5 = .ok (.invokestatic 63, 3) := by decide +kernel
theorem dX0_makeStep_8 : decode cX0_makeStep 8 = .ok (.istore 4, 2) := by decide +kernel
theorem dX0_makeStep_10 : decode cX0_makeStep 10 = .ok (.aload_n 0, 1) := by decide +kernel
theorem dX0_makeStep_11 : decode cX0_makeStep 11 = .ok (.iload 4, 2) := by decide +kernel
theorem dX0_makeStep_13 : decode cX0_makeStep 13 = .ok (.invokevirtual 66, 3) := by decide +kernel
theorem dX0_makeStep_16 : decode cX0_makeStep 16 = .ok (.istore 5, 2) := by decide +kernel
theorem dX0_makeStep_18 : decode cX0_makeStep 18 = .ok (.aload_n 0, 1) := by decide +kernel
theorem dX0_makeStep_19 : decode cX0_makeStep 19 = .ok (.iload 5, 2) := by decide +kernel
theorem dX0_makeStep_21 : decode cX0_makeStep 21 = .ok (.aload_n 0, 1) := by decide +kernel
theorem dX0_makeStep_22 : decode cX0_makeStep 22 = .ok (.getfield 31, 3) := by decide +kernel
theorem dX0_makeStep_25 : decode cX0_makeStep 25 = .ok (.aload_n 3, 1) := by decide +kernel
theorem dX0_makeStep_26 : decode cX0_makeStep 26 = .ok (.invokevirtual 70, 3) := by decide +kernel
theorem dX0_makeStep_29 : decode cX0_makeStep 29 = .ok (.istore 6, 2) := by decide +kernel
theorem dX0_makeStep_31 : decode cX0_makeStep 31 = .ok (.iload 6, 2) := by decide +kernel
theorem dX0_makeStep_33 : decode cX0_makeStep 33 = .ok (.iload_n 2, 1) := by decide +kernel
theorem dX0_makeStep_34 : decode cX0_makeStep 34 = .ok (.if_icmp .le 5, 3) := by decide +kernel
theorem dX0_makeStep_37 : decode cX0_makeStep 37 = .ok (.iconst 0, 1) := by decide +kernel
theorem dX0_makeStep_38 : decode cX0_makeStep 38 = .ok (.ireturn, 1) := by decide +kernel
theorem dX0_makeStep_39 : decode cX0_makeStep 39 = .ok (.aload_n 0, 1) := by decide +kernel
theorem dX0_makeStep_40 : decode cX0_makeStep 40 = .ok (.iload_n 1, 1) := by decide +kernel
theorem dX0_makeStep_41 : decode cX0_makeStep 41 = .ok (.invokevirtual 74, 3) := by decide +kernel
theorem dX0_makeStep_44 : decode cX0_makeStep 44 = .ok (.istore 7, 2) := by decide +kernel
theorem dX0_makeStep_46 : decode cX0_makeStep 46 = .ok (.iload 7, 2) := by decide +kernel
theorem dX0_makeStep_48 : decode cX0_makeStep 48 = .ok (.ifCond .eq 28, 3) := by decide +kernel
theorem dX0_makeStep_51 : decode cX0_makeStep 51 = .ok (.aload_n 0, 1) := by decide +kernel
theorem dX0_makeStep_52 : decode cX0_makeStep 52 = .ok (.dup, 1) := by decide +kernel
theorem dX0_makeStep_53 : decode cX0_makeStep 53 = .ok (.getfield 43, 3) := by decide +kernel
theorem dX0_makeStep_56 : decode cX0_makeStep 56 = .ok (.iconst 1, 1) := by decide +kernel
theorem dX0_makeStep_57 : decode cX0_makeStep 57 = .ok (.iadd, 1) := by decide +kernel
theorem dX0_makeStep_58 : decode cX0_makeStep 58 = .ok (.putfield 43, 3) := by decide +kernel
theorem dX0_makeStep_61 : decode cX0_makeStep 61 = .ok (.aload_n 0, 1) := by decide +kernel
theorem dX0_makeStep_62 : decode cX0_makeStep 62 = .ok (.aload_n 0, 1) := by decide +kernel
theorem dX0_makeStep_63 : decode cX0_makeStep 63 = .ok (.getfield 28, 3) := by decide +kernel
theorem dX0_makeStep_66 : decode cX0_makeStep 66 = .ok (.iconst 1, 1) := by decide +kernel
theorem dX0_makeStep_67 : decode cX0_makeStep 67 = .ok (.iadd, 1) := by decide +kernel
theorem dX0_makeStep_68 : decode cX0_makeStep 68 = .ok (.bipush 12, 2) := by decide +kernel
theorem dX0_makeStep_70 : decode cX0_makeStep 70 = .ok (.invokestatic 55, 3) := by decide +kernel
theorem dX0_makeStep_73 : decode cX0_makeStep 73 = .ok (.putfield 28, 3) := by decide +kernel
theorem dX0_makeStep_76 : decode cX0_makeStep 76 = .ok (.aload_n 0, 1) := by decide +kernel
theorem dX0_makeStep_77 : decode cX0_makeStep 77 = .ok (.aload_n 0, 1) := by decide +kernel
theorem dX0_makeStep_78 : decode cX0_makeStep 78 = .ok (.getfield 19, 3) := by decide +kernel
theorem dX0_makeStep_81 : decode cX0_makeStep 81 = .ok (.iload_n 1, 1) := by decide +kernel
theorem dX0_makeStep_82 : decode cX0_makeStep 82 = .ok (.invokestatic 78, 3) := by decide +kernel
theorem dX0_makeStep_85 : decode cX0_makeStep 85 = .ok (.putfield 19, 3) := by decide +kernel
theorem dX0_makeStep_88 : decode cX0_makeStep 88 = .ok (.iload 7, 2) := by decide +kernel
theorem dX0_makeStep_90 : decode cX0_makeStep 90 = .ok (.ifCond .eq 25, 3) := by decide +kernel
theorem dX0_makeStep_93 : decode cX0_makeStep 93 = .ok (.iload 5, 2) := by decide +kernel
theorem dX0_makeStep_95 : decode cX0_makeStep 95 = .ok (.aload_n 3, 1) := by decide +kernel
theorem dX0_makeStep_96 : decode cX0_makeStep 96 = .ok (.getfield 81, 3) := by decide +kernel
theorem dX0_makeStep_99 : decode cX0_makeStep 99 = .ok (.if_icmp .lt 16, 3) := by decide +kernel
theorem dX0_makeStep_102 : decode cX0_makeStep 102 = .ok (.aload_n 0, 1) := by decide +kernel
theorem dX0_makeStep_103 : decode cX0_makeStep 103 = .ok (.dup, 1) := by decide +kernel
theorem dX0_makeStep_104 : decode cX0_makeStep 104 = .ok (.getfield 37, 3) := by decide +kernel
theorem dX0_makeStep_107 : decode cX0_makeStep 107 = .ok (.iconst 1, 1) := by decide +kernel
theorem dX0_makeStep_108 : decode cX0_makeStep 108 = .ok (.iadd, 1) := by decide +kernel
theorem dX0_makeStep_109 : decode cX0_makeStep 109 = .ok (.putfield 37, 3) := by decide +kernel
theorem dX0_makeStep_112 : decode cX0_makeStep 112 = .ok (.goto 15, 3) := by decide +kernel
theorem dX0_makeStep_115 : decode cX0_makeStep 115 = .ok (.aload_n 0, 1) := by decide +kernel
theorem dX0_makeStep_116 : decode cX0_makeStep 116 = .ok (.aload_n 0, 1) := by decide +kernel
theorem dX0_makeStep_117 : decode cX0_makeStep 117 = .ok (.getfield 15, 3) := by decide +kernel
theorem dX0_makeStep_120 : decode cX0_makeStep 120 = .ok (.iload_n 1, 1) := by decide +kernel
theorem dX0_makeStep_121 : decode cX0_makeStep 121 = .ok (.invokestatic 78, 3) := by decide +kernel
theorem dX0_makeStep_124 : decode cX0_makeStep 124 = .ok (.putfield 15, 3) := by decide +kernel
theorem dX0_makeStep_127 : decode cX0_makeStep 127 = .ok (.aload_n 0, 1) := by decide +kernel
theorem dX0_makeStep_128 : decode cX0_makeStep 128 = .ok (.iload 4, 2) := by decide +kernel
theorem dX0_makeStep_130 : decode cX0_makeStep 130 = .ok (.iload 5, 2) := by decide +kernel
theorem dX0_makeStep_132 : decode cX0_makeStep 132 = .ok (.aload_n 3, 1) := by decide +kernel
theorem dX0_makeStep_133 : decode cX0_makeStep 133 = .ok (.getfield 84, 3) := by decide +kernel
theorem dX0_makeStep_136 : decode cX0_makeStep 136 = .ok (.iadd, 1) := by decide +kernel
theorem dX0_makeStep_137 : decode cX0_makeStep 137 = .ok (.bipush 99, 2) := by decide +kernel
theorem dX0_makeStep_139 : decode cX0_makeStep 139 = .ok (.invokestatic 55, 3) := by decide +kernel
theorem dX0_makeStep_142 : decode cX0_makeStep 142 = .ok (.invokevirtual 87, 3) := by decide +kernel
theorem dX0_makeStep_145 : decode cX0_makeStep 145 = .ok (.aload_n 0, 1) := by decide +kernel
theorem dX0_makeStep_146 : decode cX0_makeStep 146 = .ok (.iload_n 1, 1) := by decide +kernel
theorem dX0_makeStep_147 : decode cX0_makeStep 147 = .ok (.putfield 25, 3) := by decide +kernel
theorem dX0_makeStep_150 : decode cX0_makeStep 150 = .ok (.aload_n 0, 1) := by decide +kernel
theorem dX0_makeStep_151 : decode cX0_makeStep 151 = .ok (.aload_n 0, 1) := by decide +kernel
theorem dX0_makeStep_152 : decode cX0_makeStep 152 = .ok (.getfield 31, 3) := by decide +kernel
theorem dX0_makeStep_155 : decode cX0_makeStep 155 = .ok (.iconst 1, 1) := by decide +kernel
theorem dX0_makeStep_156 : decode cX0_makeStep 156 = .ok (.isub, 1) := by decide +kernel
theorem dX0_makeStep_157 : decode cX0_makeStep 157 = .ok (.iconst 0, 1) := by decide +kernel
theorem dX0_makeStep_158 : decode cX0_makeStep 158 = .ok (.invokestatic 91, 3) := by decide +kernel
theorem dX0_makeStep_161 : decode cX0_makeStep 161 = .ok (.putfield 31, 3) := by decide +kernel
theorem dX0_makeStep_164 : decode cX0_makeStep 164 = .ok (.aload_n 0, 1) := by decide +kernel
theorem dX0_makeStep_165 : decode cX0_makeStep 165 = .ok (.dup, 1) := by decide +kernel
theorem dX0_makeStep_166 : decode cX0_makeStep 166 = .ok (.getfield 34, 3) := by decide +kernel
theorem dX0_makeStep_169 : decode cX0_makeStep 169 = .ok (.iconst 1, 1) := by decide +kernel
theorem dX0_makeStep_170 : decode cX0_makeStep 170 = .ok (.iadd, 1) := by decide +kernel
theorem dX0_makeStep_171 : decode cX0_makeStep 171 = .ok (.putfield 34, 3) := by decide +kernel
theorem dX0_makeStep_174 : decode cX0_makeStep 174 = .ok (.aload_n 0, 1) := by decide +kernel
theorem dX0_makeStep_175 : decode cX0_makeStep 175 = .ok (.dup, 1) := by decide +kernel
theorem dX0_makeStep_176 : decode cX0_makeStep 176 = .ok (.getfield 40, 3) := by decide +kernel
theorem dX0_makeStep_179 : decode cX0_makeStep 179 = .ok (.iload 6, 2) := by decide +kernel
theorem dX0_makeStep_181 : decode cX0_makeStep 181 = .ok (.iadd, 1) := by decide +kernel
theorem dX0_makeStep_182 : decode cX0_makeStep 182 = .ok (.putfield 40, 3) := by decide +kernel
theorem dX0_makeStep_185 : decode cX0_makeStep 185 = .ok (.iload 6, 2) := by decide +kernel
theorem dX0_makeStep_187 : decode cX0_makeStep 187 = .ok (.ireturn, 1) := by decide +kernel
theorem dX0_makeHomed_0 : decode cX0_makeHomed 0 = .ok (.iconst 0, 1) := by decide +kernel
theorem dX0_makeHomed_1 : decode cX0_makeHomed 1 = .ok (.istore_n 3, 1) := by decide +kernel
theorem dX0_makeHomed_2 : decode cX0_makeHomed 2 = .ok (.iconst 0, 1) := by decide +kernel
theorem dX0_makeHomed_3 : decode cX0_makeHomed 3 = .ok (.istore 4, 2) := by decide +kernel
theorem dX0_makeHomed_5 : decode cX0_makeHomed 5 = .ok (.iload 4, 2) := by decide +kernel
theorem dX0_makeHomed_7 : decode cX0_makeHomed 7 = .ok (.bipush 40, 2) := by decide +kernel
theorem dX0_makeHomed_9 : decode cX0_makeHomed 9 = .ok (.if_icmp .ge 40, 3) := by decide +kernel
theorem dX0_makeHomed_12 : decode cX0_makeHomed 12 = .ok (.aload_n 0, 1) := by decide +kernel
theorem dX0_makeHomed_13 : decode cX0_makeHomed 13 = .ok (.getfield 15, 3) := by decide +kernel
theorem dX0_makeHomed_16 : decode cX0_makeHomed 16 = .ok (.ifCond .eq 33, 3) := by decide +kernel
theorem dX0_makeHomed_19 : decode cX0_makeHomed 19 = .ok (.aload_n 0, 1) := by decide +kernel
theorem dX0_makeHomed_20 : decode cX0_makeHomed 20 = .ok (.iconst (-1), 1) := by decide +kernel
theorem dX0_makeHomed_21 : decode cX0_makeHomed 21 = .ok (.iload_n 1, 1) := by decide +kernel
theorem dX0_makeHomed_22 : decode cX0_makeHomed 22 = .ok (.iload_n 3, 1) := by decide +kernel
theorem dX0_makeHomed_23 : decode cX0_makeHomed 23 = .ok (.isub, 1) := by decide +kernel
theorem dX0_makeHomed_24 : decode cX0_makeHomed 24 = .ok (.aload_n 2, 1) := by decide +kernel
theorem dX0_makeHomed_25 : decode cX0_makeHomed 25 = .ok (.invokevirtual 94, 3) := by decide +kernel
theorem dX0_makeHomed_28 : decode cX0_makeHomed 28 = .ok (.istore 5, 2) := by decide +kernel
theorem dX0_makeHomed_30 : decode cX0_makeHomed 30 = .ok (.iload 5, 2) := by decide +kernel
theorem dX0_makeHomed_32 : decode cX0_makeHomed 32 = .ok (.ifCond .ne 6, 3) := by decide +kernel
theorem dX0_makeHomed_35 : decode cX0_makeHomed 35 = .ok (.goto 14, 3) := by decide +kernel
theorem dX0_makeHomed_38 : decode cX0_makeHomed 38 = .ok (.iload_n 3, 1) := by decide +kernel
theorem dX0_makeHomed_39 : decode cX0_makeHomed 39 = .ok (.iload 5, 2) := by decide +kernel
theorem dX0_makeHomed_41 : decode cX0_makeHomed 41 = .ok (.iadd, 1) := by decide +kernel
theorem dX0_makeHomed_42 : decode cX0_makeHomed 42 = .ok (.istore_n 3, 1) := by decide +kernel
theorem dX0_makeHomed_43 : decode cX0_makeHomed 43 = .ok (.iinc 4 1, 3) := by decide +kernel
theorem dX0_makeHomed_46 : decode cX0_makeHomed 46 = .ok (.goto (-41), 3) := by decide +kernel
theorem dX0_makeHomed_49 : decode cX0_makeHomed 49 = .ok (.aload_n 0, 1) := by decide +kernel
theorem dX0_makeHomed_50 : decode cX0_makeHomed 50 = .ok (.getfield 15, 3) := by decide +kernel
theorem dX0_makeHomed_53 : decode cX0_makeHomed 53 = .ok (.ifCond .ne 28, 3) := by decide +kernel
theorem dX0_makeHomed_56 : decode cX0_makeHomed 56 = .ok (.aload_n 0, 1) := by decide +kernel
theorem dX0_makeHomed_57 : decode cX0_makeHomed 57 = .ok (.iconst 0, 1) := by decide +kernel
theorem dX0_makeHomed_58 : decode cX0_makeHomed 58 = .ok (.putfield 19, 3) := by decide +kernel
theorem dX0_makeHomed_61 : decode cX0_makeHomed 61 = .ok (.aload_n 0, 1) := by decide +kernel
theorem dX0_makeHomed_62 : decode cX0_makeHomed 62 = .ok (.iconst 0, 1) := by decide +kernel
theorem dX0_makeHomed_63 : decode cX0_makeHomed 63 = .ok (.putfield 28, 3) := by decide +kernel
theorem dX0_makeHomed_66 : decode cX0_makeHomed 66 = .ok (.aload_n 0, 1) := by decide +kernel
theorem dX0_makeHomed_67 : decode cX0_makeHomed 67 = .ok (.iconst 0, 1) := by decide +kernel
theorem dX0_makeHomed_68 : decode cX0_makeHomed 68 = .ok (.putfield 25, 3) := by decide +kernel
theorem dX0_makeHomed_71 : decode cX0_makeHomed 71 = .ok (.aload_n 0, 1) := by decide +kernel
theorem dX0_makeHomed_72 : decode cX0_makeHomed 72 = .ok (.dup, 1) := by decide +kernel
theorem dX0_makeHomed_73 : decode cX0_makeHomed 73 = .ok (.getfield 46, 3) := by decide +kernel
theorem dX0_makeHomed_76 : decode cX0_makeHomed 76 = .ok (.iconst 1, 1) := by decide +kernel
theorem dX0_makeHomed_77 : decode cX0_makeHomed 77 = .ok (.iadd, 1) := by decide +kernel
theorem dX0_makeHomed_78 : decode cX0_makeHomed 78 = .ok (.putfield 46, 3) := by decide +kernel
theorem dX0_makeHomed_81 : decode cX0_makeHomed 81 = .ok (.iload_n 3, 1) := by decide +kernel
theorem dX0_makeHomed_82 : decode cX0_makeHomed 82 = .ok (.ireturn, 1) := by decide +kernel
theorem dX0_costOfWay_0 : decode cX0_costOfWay 0 = .ok (.aload_n 0, 1) := by decide +kernel
theorem dX0_costOfWay_1 : decode cX0_costOfWay 1 = .ok (.getfield 19, 3) := by decide +kernel
theorem dX0_costOfWay_4 : decode cX0_costOfWay 4 = .ok (.istore 5, 2) := by decide +kernel
theorem dX0_costOfWay_6 : decode cX0_costOfWay 6 = .ok (.iconst 0, 1) := by decide +kernel
theorem dX0_costOfWay_7 : decode cX0_costOfWay 7 = .ok (.istore 6, 2) := by decide +kernel
theorem dX0_costOfWay_9 : decode cX0_costOfWay 9 = .ok (.iconst 0, 1) := by decide +kernel
theorem dX0_costOfWay_10 : decode cX0_costOfWay 10 = .ok (.istore 7, 2) := by decide +kernel
theorem dX0_costOfWay_12 : decode cX0_costOfWay 12 = .ok (.iload 7, 2) := by decide +kernel
theorem dX0_costOfWay_14 : decode cX0_costOfWay 14 = .ok (.bipush 24, 2) := by decide +kernel
theorem dX0_costOfWay_16 : decode cX0_costOfWay 16 = .ok (.if_icmp .ge 69, 3) := by decide +kernel
theorem dX0_costOfWay_19 : decode cX0_costOfWay 19 = .ok (.iload 5, 2) := by decide +kernel
theorem dX0_costOfWay_21 : decode cX0_costOfWay 21 = .ok (.iload_n 1, 1) := by decide +kernel
theorem dX0_costOfWay_22 : decode cX0_costOfWay 22 = .ok (.if_icmp .eq 63, 3) := by decide +kernel
theorem dX0_costOfWay_25 : decode cX0_costOfWay 25 = .ok (.iload 5, 2) := by decide +kernel
theorem dX0_costOfWay_27 : decode cX0_costOfWay 27 = .ok (.iload_n 2, 1) := by decide +kernel
theorem dX0_costOfWay_28 : decode cX0_costOfWay 28 = .ok (.invokestatic 63, 3) := by decide +kernel
theorem dX0_costOfWay_31 : decode cX0_costOfWay 31 = .ok (.istore 8, 2) := by decide +kernel
theorem dX0_costOfWay_33 : decode cX0_costOfWay 33 = .ok (.iload 8, 2) := by decide +kernel
theorem dX0_costOfWay_35 : decode cX0_costOfWay 35 = .ok (.iload_n 3, 1) := by decide +kernel
theorem dX0_costOfWay_36 : decode cX0_costOfWay 36 = .ok (.if_icmp .ne 7, 3) := by decide +kernel
theorem dX0_costOfWay_39 : decode cX0_costOfWay 39 = .ok (.iconst 0, 1) := by decide +kernel
theorem dX0_costOfWay_40 : decode cX0_costOfWay 40 = .ok (.goto 9, 3) := by decide +kernel
theorem dX0_costOfWay_43 : decode cX0_costOfWay 43 = .ok (.aload_n 0, 1) := by decide +kernel
theorem dX0_costOfWay_44 : decode cX0_costOfWay 44 = .ok (.iload 8, 2) := by decide +kernel
theorem dX0_costOfWay_46 : decode cX0_costOfWay 46 = .ok (.invokevirtual 66, 3) := by decide +kernel
theorem dX0_costOfWay_49 : decode cX0_costOfWay 49 = .ok (.istore 9, 2) := by decide +kernel
theorem dX0_costOfWay_51 : decode cX0_costOfWay 51 = .ok (.iload 6, 2) := by decide +kernel
theorem dX0_costOfWay_53 : decode cX0_costOfWay 53 = .ok (.aload_n 0, 1) := by decide +kernel
theorem dX0_costOfWay_54 : decode cX0_costOfWay 54 = .ok (.iload 9, 2) := by decide +kernel
theorem dX0_costOfWay_56 : decode cX0_costOfWay 56 = .ok (.aload_n 0, 1) := by decide +kernel
theorem dX0_costOfWay_57 : decode cX0_costOfWay 57 = .ok (.getfield 31, 3) := by decide +kernel
theorem dX0_costOfWay_60 : decode cX0_costOfWay 60 = .ok (.iload 7, 2) := by decide +kernel
theorem dX0_costOfWay_62 : decode cX0_costOfWay 62 = .ok (.isub, 1) := by decide +kernel
theorem dX0_costOfWay_63 : decode cX0_costOfWay 63 = .ok (.aload 4, 2) := by decide +kernel
theorem dX0_costOfWay_65 : decode cX0_costOfWay 65 = .ok (.invokevirtual 70, 3) := by decide +kernel
theorem dX0_costOfWay_68 : decode cX0_costOfWay 68 = .ok (.iadd, 1) := by decide +kernel
theorem dX0_costOfWay_69 : decode cX0_costOfWay 69 = .ok (.istore 6, 2) := by decide +kernel
theorem dX0_costOfWay_71 : decode cX0_costOfWay 71 = .ok (.iload 5, 2) := by decide +kernel
theorem dX0_costOfWay_73 : decode cX0_costOfWay 73 = .ok (.iload_n 2, 1) := by decide +kernel
theorem dX0_costOfWay_74 : decode cX0_costOfWay 74 = .ok (.invokestatic 78, 3) := by decide +kernel
theorem dX0_costOfWay_77 : decode cX0_costOfWay 77 = .ok (.istore 5, 2) := by decide +kernel
theorem dX0_costOfWay_79 : decode cX0_costOfWay 79 = .ok (.iinc 7 1, 3) := by decide +kernel
theorem dX0_costOfWay_82 : decode cX0_costOfWay 82 = .ok (.goto (-70), 3) := by decide +kernel
theorem dX0_costOfWay_85 : decode cX0_costOfWay 85 = .ok (.iload 6, 2) := by decide +kernel
theorem dX0_costOfWay_87 : decode cX0_costOfWay 87 = .ok (.ireturn, 1) := by decide +kernel
theorem dX0_possiblePlaces_0 : decode cX0_possiblePlaces 0 = .ok (.iconst 0, 1) := by decide +kernel
theorem dX0_possiblePlaces_1 : decode cX0_possiblePlaces 1 = .ok (.istore_n 1, 1) := by decide +kernel
theorem dX0_possiblePlaces_2 : decode cX0_possiblePlaces 2 = .ok (.iconst 0, 1) := by decide +kernel
theorem dX0_possiblePlaces_3 : decode cX0_possiblePlaces 3 = .ok (.istore_n 2, 1) := by decide +kernel
theorem dX0_possiblePlaces_4 : decode cX0_possiblePlaces 4 = .ok (.iload_n 2, 1) := by decide +kernel
theorem dX0_possiblePlaces_5 : decode cX0_possiblePlaces 5 = .ok (.bipush 24, 2) := by decide +kernel
theorem dX0_possiblePlaces_7 : decode cX0_possiblePlaces 7 = .ok (.if_icmp .ge 30, 3) := by decide +kernel
theorem dX0_possiblePlaces_10 : decode cX0_possiblePlaces 10 = .ok (.iload_n 2, 1) := by decide +kernel
theorem dX0_possiblePlaces_11 : decode cX0_possiblePlaces 11 = .ok (.aload_n 0, 1) := by decide +kernel
theorem dX0_possiblePlaces_12 : decode cX0_possiblePlaces 12 = .ok (.getfield 19, 3) := by decide +kernel
theorem dX0_possiblePlaces_15 : decode cX0_possiblePlaces 15 = .ok (.invokestatic 97, 3) := by decide +kernel
theorem dX0_possiblePlaces_18 : decode cX0_possiblePlaces 18 = .ok (.aload_n 0, 1) := by decide +kernel
theorem dX0_possiblePlaces_19 : decode cX0_possiblePlaces 19 = .ok (.getfield 28, 3) := by decide +kernel
theorem dX0_possiblePlaces_22 : decode cX0_possiblePlaces 22 = .ok (.if_icmp .gt 9, 3) := by decide +kernel
theorem dX0_possiblePlaces_25 : decode cX0_possiblePlaces 25 = .ok (.iload_n 1, 1) := by decide +kernel
theorem dX0_possiblePlaces_26 : decode cX0_possiblePlaces 26 = .ok (.iconst 1, 1) := by decide +kernel
theorem dX0_possiblePlaces_27 : decode cX0_possiblePlaces 27 = .ok (.iload_n 2, 1) := by decide +kernel
theorem dX0_possiblePlaces_28 : decode cX0_possiblePlaces 28 = .ok (.ishl, 1) := by decide +kernel
theorem dX0_possiblePlaces_29 : decode cX0_possiblePlaces 29 = .ok (.ior, 1) := by decide +kernel
theorem dX0_possiblePlaces_30 : decode cX0_possiblePlaces 30 = .ok (.istore_n 1, 1) := by decide +kernel
theorem dX0_possiblePlaces_31 : decode cX0_possiblePlaces 31 = .ok (.iinc 2 1, 3) := by decide +kernel
theorem dX0_possiblePlaces_34 : decode cX0_possiblePlaces 34 = .ok (.goto (-30), 3) := by decide +kernel
theorem dX0_possiblePlaces_37 : decode cX0_possiblePlaces 37 = .ok (.iload_n 1, 1) := by decide +kernel
theorem dX0_possiblePlaces_38 : decode cX0_possiblePlaces 38 = .ok (.ireturn, 1) := by decide +kernel
theorem dX0_property_0 : decode cX0_property 0 = .ok (.iload_n 1, 1) := by decide +kernel
theorem dX0_property_1 : decode cX0_property 1 = .ok (.tableswitch 121 0 10 #[59, 64, 69, 74, 79, 84, 89, 94, 99, 104, 116], 59) := by decide +kernel
theorem dX0_property_60 : decode cX0_property 60 = .ok (.aload_n 0, 1) := by decide +kernel
theorem dX0_property_61 : decode cX0_property 61 = .ok (.getfield 15, 3) := by decide +kernel
theorem dX0_property_64 : decode cX0_property 64 = .ok (.ireturn, 1) := by decide +kernel
theorem dX0_property_65 : decode cX0_property 65 = .ok (.aload_n 0, 1) := by decide +kernel
theorem dX0_property_66 : decode cX0_property 66 = .ok (.getfield 19, 3) := by decide +kernel
theorem dX0_property_69 : decode cX0_property 69 = .ok (.ireturn, 1) := by decide +kernel
theorem dX0_property_70 : decode cX0_property 70 = .ok (.aload_n 0, 1) := by decide +kernel
theorem dX0_property_71 : decode cX0_property 71 = .ok (.getfield 22, 3) := by decide +kernel
theorem dX0_property_74 : decode cX0_property 74 = .ok (.ireturn, 1) := by decide +kernel
theorem dX0_property_75 : decode cX0_property 75 = .ok (.aload_n 0, 1) := by decide +kernel
theorem dX0_property_76 : decode cX0_property 76 = .ok (.getfield 25, 3) := by decide +kernel
theorem dX0_property_79 : decode cX0_property 79 = .ok (.ireturn, 1) := by decide +kernel
theorem dX0_property_80 : decode cX0_property 80 = .ok (.aload_n 0, 1) := by decide +kernel
theorem dX0_property_81 : decode cX0_property 81 = .ok (.getfield 28, 3) := by decide +kernel
theorem dX0_property_84 : decode cX0_property 84 = .ok (.ireturn, 1) := by decide +kernel
theorem dX0_property_85 : decode cX0_property 85 = .ok (.aload_n 0, 1) := by decide +kernel
theorem dX0_property_86 : decode cX0_property 86 = .ok (.getfield 31, 3) := by decide +kernel
theorem dX0_property_89 : decode cX0_property 89 = .ok (.ireturn, 1) := by decide +kernel
theorem dX0_property_90 : decode cX0_property 90 = .ok (.aload_n 0, 1) := by decide +kernel
theorem dX0_property_91 : decode cX0_property 91 = .ok (.getfield 34, 3) := by decide +kernel
theorem dX0_property_94 : decode cX0_property 94 = .ok (.ireturn, 1) := by decide +kernel
theorem dX0_property_95 : decode cX0_property 95 = .ok (.aload_n 0, 1) := by decide +kernel
theorem dX0_property_96 : decode cX0_property 96 = .ok (.getfield 37, 3) := by decide +kernel
theorem dX0_property_99 : decode cX0_property 99 = .ok (.ireturn, 1) := by decide +kernel
theorem dX0_property_100 : decode cX0_property 100 = .ok (.aload_n 0, 1) := by decide +kernel
theorem dX0_property_101 : decode cX0_property 101 = .ok (.getfield 40, 3) := by decide +kernel
theorem dX0_property_104 : decode cX0_property 104 = .ok (.ireturn, 1) := by decide +kernel
theorem dX0_property_105 : decode cX0_property 105 = .ok (.aload_n 0, 1) := by decide +kernel
theorem dX0_property_106 : decode cX0_property 106 = .ok (.getfield 15, 3) := by decide +kernel
theorem dX0_property_109 : decode cX0_property 109 = .ok (.aload_n 0, 1) := by decide +kernel
theorem dX0_property_110 : decode cX0_property 110 = .ok (.getfield 19, 3) := by decide +kernel
theorem dX0_property_113 : decode cX0_property 113 = .ok (.invokestatic 97, 3) := by decide +kernel
theorem dX0_property_116 : decode cX0_property 116 = .ok (.ireturn, 1) := by decide +kernel
theorem dX0_property_117 : decode cX0_property 117 = .ok (.aload_n 0, 1) := by decide +kernel
theorem dX0_property_118 : decode cX0_property 118 = .ok (.getfield 43, 3) := by decide +kernel
theorem dX0_property_121 : decode cX0_property 121 = .ok (.ireturn, 1) := by decide +kernel
theorem dX0_property_122 : decode cX0_property 122 = .ok (.aload_n 0, 1) := by decide +kernel
theorem dX0_property_123 : decode cX0_property 123 = .ok (.getfield 46, 3) := by decide +kernel
theorem dX0_property_126 : decode cX0_property 126 = .ok (.ireturn, 1) := by decide +kernel
theorem dX0_copyFrom_0 : decode cX0_copyFrom 0 = .ok (.aload_n 1, 1) := by decide +kernel
theorem dX0_copyFrom_1 : decode cX0_copyFrom 1 = .ok (.getfield 9, 3) := by decide +kernel
theorem dX0_copyFrom_4 : decode cX0_copyFrom 4 = .ok (.iconst 0, 1) := by decide +kernel
theorem dX0_copyFrom_5 : decode cX0_copyFrom 5 = .ok (.aload_n 0, 1) := by decide +kernel
theorem dX0_copyFrom_6 : decode cX0_copyFrom 6 = .ok (.getfield 9, 3) := by decide +kernel
theorem dX0_copyFrom_9 : decode cX0_copyFrom 9 = .ok (.iconst 0, 1) := by decide +kernel
theorem dX0_copyFrom_10 : decode cX0_copyFrom 10 = .ok (.aload_n 1, 1) := by decide +kernel
theorem dX0_copyFrom_11 : decode cX0_copyFrom 11 = .ok (.getfield 9, 3) := by decide +kernel
theorem dX0_copyFrom_14 : decode cX0_copyFrom 14 = .ok (.arraylength, 1) := by decide +kernel
theorem dX0_copyFrom_15 : decode cX0_copyFrom 15 = .ok (.aload_n 0, 1) := by decide +kernel
theorem dX0_copyFrom_16 : decode cX0_copyFrom 16 = .ok (.getfield 9, 3) := by decide +kernel
theorem dX0_copyFrom_19 : decode cX0_copyFrom 19 = .ok (.arraylength, 1) := by decide +kernel
theorem dX0_copyFrom_20 : decode cX0_copyFrom 20 = .ok (.invokestatic 55, 3) := by decide +kernel
theorem dX0_copyFrom_23 : decode cX0_copyFrom 23 = .ok (.invokestatic 100, 3) := by decide +kernel
theorem dX0_copyFrom_26 : decode cX0_copyFrom 26 = .ok (.aload_n 0, 1) := by decide +kernel
theorem dX0_copyFrom_27 : decode cX0_copyFrom 27 = .ok (.aload_n 1, 1) := by decide +kernel
theorem dX0_copyFrom_28 : decode cX0_copyFrom 28 = .ok (.getfield 15, 3) := by decide +kernel
theorem dX0_copyFrom_31 : decode cX0_copyFrom 31 = .ok (.putfield 15, 3) := by decide +kernel
theorem dX0_copyFrom_34 : decode cX0_copyFrom 34 = .ok (.aload_n 0, 1) := by decide +kernel
theorem dX0_copyFrom_35 : decode cX0_copyFrom 35 = .ok (.aload_n 1, 1) := by decide +kernel
theorem dX0_copyFrom_36 : decode cX0_copyFrom 36 = .ok (.getfield 19, 3) := by decide +kernel
theorem dX0_copyFrom_39 : decode cX0_copyFrom 39 = .ok (.putfield 19, 3) := by decide +kernel
theorem dX0_copyFrom_42 : decode cX0_copyFrom 42 = .ok (.aload_n 0, 1) := by decide +kernel
theorem dX0_copyFrom_43 : decode cX0_copyFrom 43 = .ok (.aload_n 1, 1) := by decide +kernel
theorem dX0_copyFrom_44 : decode cX0_copyFrom 44 = .ok (.getfield 22, 3) := by decide +kernel
theorem dX0_copyFrom_47 : decode cX0_copyFrom 47 = .ok (.putfield 22, 3) := by decide +kernel
theorem dX0_copyFrom_50 : decode cX0_copyFrom 50 = .ok (.aload_n 0, 1) := by decide +kernel
theorem dX0_copyFrom_51 : decode cX0_copyFrom 51 = .ok (.aload_n 1, 1) := by decide +kernel
theorem dX0_copyFrom_52 : decode cX0_copyFrom 52 = .ok (.getfield 25, 3) := by decide +kernel
theorem dX0_copyFrom_55 : decode cX0_copyFrom 55 = .ok (.putfield 25, 3) := by decide +kernel
theorem dX0_copyFrom_58 : decode cX0_copyFrom 58 = .ok (.aload_n 0, 1) := by decide +kernel
theorem dX0_copyFrom_59 : decode cX0_copyFrom 59 = .ok (.aload_n 1, 1) := by decide +kernel
theorem dX0_copyFrom_60 : decode cX0_copyFrom 60 = .ok (.getfield 28, 3) := by decide +kernel
theorem dX0_copyFrom_63 : decode cX0_copyFrom 63 = .ok (.putfield 28, 3) := by decide +kernel
theorem dX0_copyFrom_66 : decode cX0_copyFrom 66 = .ok (.aload_n 0, 1) := by decide +kernel
theorem dX0_copyFrom_67 : decode cX0_copyFrom 67 = .ok (.aload_n 1, 1) := by decide +kernel
theorem dX0_copyFrom_68 : decode cX0_copyFrom 68 = .ok (.getfield 31, 3) := by decide +kernel
theorem dX0_copyFrom_71 : decode cX0_copyFrom 71 = .ok (.putfield 31, 3) := by decide +kernel
theorem dX0_copyFrom_74 : decode cX0_copyFrom 74 = .ok (.aload_n 0, 1) := by decide +kernel
theorem dX0_copyFrom_75 : decode cX0_copyFrom 75 = .ok (.aload_n 1, 1) := by decide +kernel
theorem dX0_copyFrom_76 : decode cX0_copyFrom 76 = .ok (.getfield 34, 3) := by decide +kernel
theorem dX0_copyFrom_79 : decode cX0_copyFrom 79 = .ok (.putfield 34, 3) := by decide +kernel
theorem dX0_copyFrom_82 : decode cX0_copyFrom 82 = .ok (.aload_n 0, 1) := by decide +kernel
theorem dX0_copyFrom_83 : decode cX0_copyFrom 83 = .ok (.aload_n 1, 1) := by decide +kernel
theorem dX0_copyFrom_84 : decode cX0_copyFrom 84 = .ok (.getfield 37, 3) := by decide +kernel
theorem dX0_copyFrom_87 : decode cX0_copyFrom 87 = .ok (.putfield 37, 3) := by decide +kernel
theorem dX0_copyFrom_90 : decode cX0_copyFrom 90 = .ok (.aload_n 0, 1) := by decide +kernel
theorem dX0_copyFrom_91 : decode cX0_copyFrom 91 = .ok (.aload_n 1, 1) := by decide +kernel
theorem dX0_copyFrom_92 : decode cX0_copyFrom 92 = .ok (.getfield 40, 3) := by decide +kernel
theorem dX0_copyFrom_95 : decode cX0_copyFrom 95 = .ok (.putfield 40, 3) := by decide +kernel
theorem dX0_copyFrom_98 : decode cX0_copyFrom 98 = .ok (.aload_n 0, 1) := by decide +kernel
theorem dX0_copyFrom_99 : decode cX0_copyFrom 99 = .ok (.aload_n 1, 1) := by decide +kernel
theorem dX0_copyFrom_100 : decode cX0_copyFrom 100 = .ok (.getfield 43, 3) := by decide +kernel
theorem dX0_copyFrom_103 : decode cX0_copyFrom 103 = .ok (.putfield 43, 3) := by decide +kernel
theorem dX0_copyFrom_106 : decode cX0_copyFrom 106 = .ok (.aload_n 0, 1) := by decide +kernel
theorem dX0_copyFrom_107 : decode cX0_copyFrom 107 = .ok (.aload_n 1, 1) := by decide +kernel
theorem dX0_copyFrom_108 : decode cX0_copyFrom 108 = .ok (.getfield 46, 3) := by decide +kernel
theorem dX0_copyFrom_111 : decode cX0_copyFrom 111 = .ok (.putfield 46, 3) := by decide +kernel
theorem dX0_copyFrom_114 : decode cX0_copyFrom 114 = .ok (.return_, 1) := by decide +kernel
theorem dX1_init_0 : decode cX1_init 0 = .ok (.aload_n 0, 1) := by decide +kernel
theorem dX1_init_1 : decode cX1_init 1 = .ok (.invokespecial 3, 3) := by decide +kernel
theorem dX1_init_4 : decode cX1_init 4 = .ok (.aload_n 0, 1) := by decide +kernel
theorem dX1_init_5 : decode cX1_init 5 = .ok (.bipush 6, 2) := by decide +kernel
theorem dX1_init_7 : decode cX1_init 7 = .ok (.anewarray 9, 3) := by decide +kernel
theorem dX1_init_10 : decode cX1_init 10 = .ok (.putfield 11, 3) := by decide +kernel
theorem dX1_init_13 : decode cX1_init 13 = .ok (.aload_n 0, 1) := by decide +kernel
theorem dX1_init_14 : decode cX1_init 14 = .ok (.iconst 0, 1) := by decide +kernel
theorem dX1_init_15 : decode cX1_init 15 = .ok (.putfield 17, 3) := by decide +kernel
theorem dX1_init_18 : decode cX1_init 18 = .ok (.aload_n 0, 1) := by decide +kernel
theorem dX1_init_19 : decode cX1_init 19 = .ok (.iconst 0, 1) := by decide +kernel
theorem dX1_init_20 : decode cX1_init 20 = .ok (.putfield 21, 3) := by decide +kernel
theorem dX1_init_23 : decode cX1_init 23 = .ok (.iconst 0, 1) := by decide +kernel
theorem dX1_init_24 : decode cX1_init 24 = .ok (.istore_n 1, 1) := by decide +kernel
theorem dX1_init_25 : decode cX1_init 25 = .ok (.iload_n 1, 1) := by decide +kernel
theorem dX1_init_26 : decode cX1_init 26 = .ok (.aload_n 0, 1) := by decide +kernel
theorem dX1_init_27 : decode cX1_init 27 = .ok (.getfield 11, 3) := by decide +kernel
theorem dX1_init_30 : decode cX1_init 30 = .ok (.arraylength, 1) := by decide +kernel
theorem dX1_init_31 : decode cX1_init 31 = .ok (.if_icmp .ge 22, 3) := by decide +kernel
theorem dX1_init_34 : decode cX1_init 34 = .ok (.aload_n 0, 1) := by decide +kernel
theorem dX1_init_35 : decode cX1_init 35 = .ok (.getfield 11, 3) := by decide +kernel
theorem dX1_init_38 : decode cX1_init 38 = .ok (.iload_n 1, 1) := by decide +kernel
theorem dX1_init_39 : decode cX1_init 39 = .ok (.new 9, 3) := by decide +kernel
theorem dX1_init_42 : decode cX1_init 42 = .ok (.dup, 1) := by decide +kernel
theorem dX1_init_43 : decode cX1_init 43 = .ok (.invokespecial 24, 3) := by decide +kernel
theorem dX1_init_46 : decode cX1_init 46 = .ok (.aastore, 1) := by decide +kernel
theorem dX1_init_47 : decode cX1_init 47 = .ok (.iinc 1 1, 3) := by decide +kernel
theorem dX1_init_50 : decode cX1_init 50 = .ok (.goto (-25), 3) := by decide +kernel
theorem dX1_init_53 : decode cX1_init 53 = .ok (.return_, 1) := by decide +kernel
theorem dX1_newestRow_0 : decode cX1_newestRow 0 = .ok (.aload_n 0, 1) := by decide +kernel
theorem dX1_newestRow_1 : decode cX1_newestRow 1 = .ok (.getfield 17, 3) := by decide +kernel
theorem dX1_newestRow_4 : decode cX1_newestRow 4 = .ok (.ifCond .lt 27, 3) := by decide +kernel
theorem dX1_newestRow_7 : decode cX1_newestRow 7 = .ok (.aload_n 0, 1) := by decide +kernel
theorem dX1_newestRow_8 : decode cX1_newestRow 8 = .ok (.getfield 17, 3) := by decide +kernel
theorem dX1_newestRow_11 : decode cX1_newestRow 11 = .ok (.aload_n 0, 1) := by decide +kernel
theorem dX1_newestRow_12 : decode cX1_newestRow 12 = .ok (.getfield 11, 3) := by decide +kernel
theorem dX1_newestRow_15 : decode cX1_newestRow 15 = .ok (.arraylength, 1) := by decide +kernel
theorem dX1_newestRow_16 : decode cX1_newestRow 16 = .ok (.if_icmp .ge 15, 3) := by decide +kernel
theorem dX1_newestRow_19 : decode cX1_newestRow 19 = .ok (.aload_n 0, 1) := by decide +kernel
theorem dX1_newestRow_20 : decode cX1_newestRow 20 = .ok (.getfield 11, 3) := by decide +kernel
theorem dX1_newestRow_23 : decode cX1_newestRow 23 = .ok (.aload_n 0, 1) := by decide +kernel
theorem dX1_newestRow_24 : decode cX1_newestRow 24 = .ok (.getfield 17, 3) := by decide +kernel
theorem dX1_newestRow_27 : decode cX1_newestRow 27 = .ok (.aaload, 1) := by decide +kernel
theorem dX1_newestRow_28 : decode cX1_newestRow 28 = .ok (.goto 4, 3) := by decide +kernel
theorem dX1_newestRow_31 : decode cX1_newestRow 31 = .ok (.aconst_null, 1) := by decide +kernel
theorem dX1_newestRow_32 : decode cX1_newestRow 32 = .ok (.areturn, 1) := by decide +kernel
theorem dX1_save_0 : decode cX1_save 0 = .ok (.aload_n 0, 1) := by decide +kernel
theorem dX1_save_1 : decode cX1_save 1 = .ok (.aload_n 0, 1) := by decide +kernel
theorem dX1_save_2 : decode cX1_save 2 = .ok (.getfield 17, 3) := by decide +kernel
theorem dX1_save_5 : decode cX1_save 5 = .ok (.iconst 1, 1) := by decide +kernel
theorem dX1_save_6 : decode cX1_save 6 = .ok (.iadd, 1) := by decide +kernel
theorem dX1_save_7 : decode cX1_save 7 = .ok (.bipush 6, 2) := by decide +kernel
theorem dX1_save_9 : decode cX1_save 9 = .ok (.if_icmp .ge 12, 3) := by decide +kernel
theorem dX1_save_12 : decode cX1_save 12 = .ok (.aload_n 0, 1) := by decide +kernel
theorem dX1_save_13 : decode cX1_save 13 = .ok (.getfield 17, 3) := by decide +kernel
theorem dX1_save_16 : decode cX1_save 16 = .ok (.iconst 1, 1) := by decide +kernel
theorem dX1_save_17 : decode cX1_save 17 = .ok (.iadd, 1) := by decide +kernel
theorem dX1_save_18 : decode cX1_save 18 = .ok (.goto 4, 3) := by decide +kernel
theorem dX1_save_21 : decode cX1_save 21 = .ok (.iconst 0, 1) := by decide +kernel
theorem dX1_save_22 : decode cX1_save 22 = .ok (.putfield 17, 3) := by decide +kernel
theorem dX1_save_25 : decode cX1_save 25 = .ok (.aload_n 0, 1) := by decide +kernel
theorem dX1_save_26 : decode cX1_save 26 = .ok (.aload_n 0, 1) := by decide +kernel
theorem dX1_save_27 : decode cX1_save 27 = .ok (.getfield 21, 3) := by decide +kernel
theorem dX1_save_30 : decode cX1_save 30 = .ok (.iconst 1, 1) := by decide +kernel
theorem dX1_save_31 : decode cX1_save 31 = .ok (.iadd, 1) := by decide +kernel
theorem dX1_save_32 : decode cX1_save 32 = .ok (.bipush 6, 2) := by decide +kernel
theorem dX1_save_34 : decode cX1_save 34 = .ok (.invokestatic 25, 3) := by decide +kernel
theorem dX1_save_37 : decode cX1_save 37 = .ok (.putfield 21, 3) := by decide +kernel
theorem dX1_save_40 : decode cX1_save 40 = .ok (.aload_n 0, 1) := by decide +kernel
theorem dX1_save_41 : decode cX1_save 41 = .ok (.invokevirtual 31, 3) := by decide +kernel
theorem dX1_save_44 : decode cX1_save 44 = .ok (.astore_n 2, 1) := by decide +kernel
theorem dX1_save_45 : decode cX1_save 45 = .ok (.aload_n 2, 1) := by decide +kernel
theorem dX1_save_46 : decode cX1_save 46 = .ok (.ifnull 8, 3) := by decide +kernel
theorem dX1_save_49 : decode cX1_save 49 = .ok (.aload_n 2, 1) := by decide +kernel
theorem dX1_save_50 : decode cX1_save 50 = .ok (.aload_n 1, 1) := by decide +kernel
theorem dX1_save_51 : decode cX1_save 51 = .ok (.invokevirtual 35, 3) := by decide +kernel
theorem dX1_save_54 : decode cX1_save 54 = .ok (.return_, 1) := by decide +kernel
theorem dX1_restoreInto_0 : decode cX1_restoreInto 0 = .ok (.aload_n 0, 1) := by decide +kernel
theorem dX1_restoreInto_1 : decode cX1_restoreInto 1 = .ok (.invokevirtual 31, 3) := by decide +kernel
theorem dX1_restoreInto_4 : decode cX1_restoreInto 4 = .ok (.astore_n 2, 1) := by decide +kernel
theorem dX1_restoreInto_5 : decode cX1_restoreInto 5 = .ok (.aload_n 2, 1) := by decide +kernel
theorem dX1_restoreInto_6 : decode cX1_restoreInto 6 = .ok (.ifnull 8, 3) := by decide +kernel
theorem dX1_restoreInto_9 : decode cX1_restoreInto 9 = .ok (.aload_n 1, 1) := by decide +kernel
theorem dX1_restoreInto_10 : decode cX1_restoreInto 10 = .ok (.aload_n 2, 1) := by decide +kernel
theorem dX1_restoreInto_11 : decode cX1_restoreInto 11 = .ok (.invokevirtual 35, 3) := by decide +kernel
theorem dX1_restoreInto_14 : decode cX1_restoreInto 14 = .ok (.aload_n 0, 1) := by decide +kernel
theorem dX1_restoreInto_15 : decode cX1_restoreInto 15 = .ok (.aload_n 0, 1) := by decide +kernel
theorem dX1_restoreInto_16 : decode cX1_restoreInto 16 = .ok (.getfield 17, 3) := by decide +kernel
theorem dX1_restoreInto_19 : decode cX1_restoreInto 19 = .ok (.ifCond .le 12, 3) := by decide +kernel
theorem dX1_restoreInto_22 : decode cX1_restoreInto 22 = .ok (.aload_n 0, 1) := by decide +kernel
theorem dX1_restoreInto_23 : decode cX1_restoreInto 23 = .ok (.getfield 17, 3) := by decide +kernel
theorem dX1_restoreInto_26 : decode cX1_restoreInto 26 = .ok (.iconst 1, 1) := by decide +kernel
theorem dX1_restoreInto_27 : decode cX1_restoreInto 27 = .ok (.isub, 1) := by decide +kernel
theorem dX1_restoreInto_28 : decode cX1_restoreInto 28 = .ok (.goto 4, 3) := by decide +kernel
theorem dX1_restoreInto_31 : decode cX1_restoreInto 31 = .ok (.iconst 5, 1) := by decide +kernel
theorem dX1_restoreInto_32 : decode cX1_restoreInto 32 = .ok (.putfield 17, 3) := by decide +kernel
theorem dX1_restoreInto_35 : decode cX1_restoreInto 35 = .ok (.aload_n 0, 1) := by decide +kernel
theorem dX1_restoreInto_36 : decode cX1_restoreInto 36 = .ok (.aload_n 0, 1) := by decide +kernel
theorem dX1_restoreInto_37 : decode cX1_restoreInto 37 = .ok (.getfield 21, 3) := by decide +kernel
theorem dX1_restoreInto_40 : decode cX1_restoreInto 40 = .ok (.iconst 1, 1) := by decide +kernel
theorem dX1_restoreInto_41 : decode cX1_restoreInto 41 = .ok (.isub, 1) := by decide +kernel
theorem dX1_restoreInto_42 : decode cX1_restoreInto 42 = .ok (.iconst 0, 1) := by decide +kernel
theorem dX1_restoreInto_43 : decode cX1_restoreInto 43 = .ok (.invokestatic 39, 3) := by decide +kernel
theorem dX1_restoreInto_46 : decode cX1_restoreInto 46 = .ok (.putfield 21, 3) := by decide +kernel
theorem dX1_restoreInto_49 : decode cX1_restoreInto 49 = .ok (.return_, 1) := by decide +kernel
theorem dX2_init_0 : decode cX2_init 0 = .ok (.aload_n 0, 1) := by decide +kernel
theorem dX2_init_1 : decode cX2_init 1 = .ok (.invokespecial 3, 3) := by decide +kernel
theorem dX2_init_4 : decode cX2_init 4 = .ok (.aload_n 0, 1) := by decide +kernel
theorem dX2_init_5 : decode cX2_init 5 = .ok (.iconst 0, 1) := by decide +kernel
theorem dX2_init_6 : decode cX2_init 6 = .ok (.putfield 11, 3) := by decide +kernel
theorem dX2_init_9 : decode cX2_init 9 = .ok (.aload_n 0, 1) := by decide +kernel
theorem dX2_init_10 : decode cX2_init 10 = .ok (.iconst 0, 1) := by decide +kernel
theorem dX2_init_11 : decode cX2_init 11 = .ok (.putfield 15, 3) := by decide +kernel
theorem dX2_init_14 : decode cX2_init 14 = .ok (.aload_n 0, 1) := by decide +kernel
theorem dX2_init_15 : decode cX2_init 15 = .ok (.iconst 0, 1) := by decide +kernel
theorem dX2_init_16 : decode cX2_init 16 = .ok (.putfield 18, 3) := by decide +kernel
theorem dX2_init_19 : decode cX2_init 19 = .ok (.aload_n 0, 1) := by decide +kernel
theorem dX2_init_20 : decode cX2_init 20 = .ok (.iconst 0, 1) := by decide +kernel
theorem dX2_init_21 : decode cX2_init 21 = .ok (.putfield 21, 3) := by decide +kernel
theorem dX2_init_24 : decode cX2_init 24 = .ok (.return_, 1) := by decide +kernel
theorem dX2_begin_0 : decode cX2_begin 0 = .ok (.aload_n 0, 1) := by decide +kernel
theorem dX2_begin_1 : decode cX2_begin 1 = .ok (.iconst 0, 1) := by decide +kernel
theorem dX2_begin_2 : decode cX2_begin 2 = .ok (.putfield 11, 3) := by decide +kernel
theorem dX2_begin_5 : decode cX2_begin 5 = .ok (.return_, 1) := by decide +kernel
theorem dX2_isAtEndOfCommand_0 : decode cX2_isAtEndOfCommand 0 = .ok (.aload_n 0, 1) := by decide +kernel
theorem dX2_isAtEndOfCommand_1 : decode cX2_isAtEndOfCommand 1 = .ok (.getfield 11, 3) := by decide +kernel
theorem dX2_isAtEndOfCommand_4 : decode cX2_isAtEndOfCommand 4 = .ok (.iconst 3, 1) := by decide +kernel
theorem dX2_isAtEndOfCommand_5 : decode cX2_isAtEndOfCommand 5 = .ok (.if_icmp .eq 11, 3) := by decide +kernel
theorem dX2_isAtEndOfCommand_8 : decode cX2_isAtEndOfCommand 8 = .ok (.aload_n 0, 1) := by decide +kernel
theorem dX2_isAtEndOfCommand_9 : decode cX2_isAtEndOfCommand 9 = .ok (.getfield 11, 3) := by decide +kernel
theorem dX2_isAtEndOfCommand_12 : decode cX2_isAtEndOfCommand 12 = .ok (.iconst 4, 1) := by decide +kernel
theorem dX2_isAtEndOfCommand_13 : decode cX2_isAtEndOfCommand 13 = .ok (.if_icmp .ne 7, 3) := by decide +kernel
theorem dX2_isAtEndOfCommand_16 : decode cX2_isAtEndOfCommand 16 = .ok (.iconst 1, 1) := by decide +kernel
theorem dX2_isAtEndOfCommand_17 : decode cX2_isAtEndOfCommand 17 = .ok (.goto 4, 3) := by decide +kernel
theorem dX2_isAtEndOfCommand_20 : decode cX2_isAtEndOfCommand 20 = .ok (.iconst 0, 1) := by decide +kernel
theorem dX2_isAtEndOfCommand_21 : decode cX2_isAtEndOfCommand 21 = .ok (.ireturn, 1) := by decide +kernel
theorem dX2_take_0 : decode cX2_take 0 = .ok (.aload_n 0, 1) := by decide +kernel
theorem dX2_take_1 : decode cX2_take 1 = .ok (.getfield 11, 3) := by decide +kernel
theorem dX2_take_4 : decode cX2_take 4 = .ok (.tableswitch 72 0 3 #[32, 38, 44, 50], 32) := by decide +kernel
theorem dX2_take_36 : decode cX2_take 36 = .ok (.aload_n 0, 1) := by decide +kernel
theorem dX2_take_37 : decode cX2_take 37 = .ok (.iload_n 1, 1) := by decide +kernel
theorem dX2_take_38 : decode cX2_take 38 = .ok (.invokevirtual 24, 3) := by decide +kernel
theorem dX2_take_41 : decode cX2_take 41 = .ok (.ireturn, 1) := by decide +kernel
theorem dX2_take_42 : decode cX2_take 42 = .ok (.aload_n 0, 1) := by decide +kernel
theorem dX2_take_43 : decode cX2_take 43 = .ok (.iload_n 1, 1) := by decide +kernel
theorem dX2_take_44 : decode cX2_take 44 = .ok (.invokevirtual 28, 3) := by decide +kernel
theorem dX2_take_47 : decode cX2_take 47 = .ok (.ireturn, 1) := by decide +kernel
theorem dX2_take_48 : decode cX2_take 48 = .ok (.aload_n 0, 1) := by decide +kernel
theorem dX2_take_49 : decode cX2_take 49 = .ok (.iload_n 1, 1) := by decide +kernel
theorem dX2_take_50 : decode cX2_take 50 = .ok (.invokevirtual 31, 3) := by decide +kernel
theorem dX2_take_53 : decode cX2_take 53 = .ok (.ireturn, 1) := by decide +kernel
theorem dX2_take_54 : decode cX2_take 54 = .ok (.aload_n 0, 1) := by decide +kernel
theorem dX2_take_55 : decode cX2_take 55 = .ok (.iload_n 1, 1) := by decide +kernel
theorem dX2_take_56 : decode cX2_take 56 = .ok (.invokevirtual 34, 3) := by decide +kernel
theorem dX2_take_59 : decode cX2_take 59 = .ok (.ifCond .ne 11, 3) := by decide +kernel
theorem dX2_take_62 : decode cX2_take 62 = .ok (.aload_n 0, 1) := by decide +kernel
theorem dX2_take_63 : decode cX2_take 63 = .ok (.iload_n 1, 1) := by decide +kernel
theorem dX2_take_64 : decode cX2_take 64 = .ok (.invokevirtual 37, 3) := by decide +kernel
theorem dX2_take_67 : decode cX2_take 67 = .ok (.ifCond .eq 7, 3) := by decide +kernel
theorem dX2_take_70 : decode cX2_take 70 = .ok (.iconst 1, 1) := by decide +kernel
theorem dX2_take_71 : decode cX2_take 71 = .ok (.goto 4, 3) := by decide +kernel
theorem dX2_take_74 : decode cX2_take 74 = .ok (.iconst 0, 1) := by decide +kernel
theorem dX2_take_75 : decode cX2_take 75 = .ok (.ireturn, 1) := by decide +kernel
theorem dX2_take_76 : decode cX2_take 76 = .ok (.aload_n 0, 1) := by decide +kernel
theorem dX2_take_77 : decode cX2_take 77 = .ok (.iload_n 1, 1) := by decide +kernel
theorem dX2_take_78 : decode cX2_take 78 = .ok (.invokevirtual 37, 3) := by decide +kernel
theorem dX2_take_81 : decode cX2_take 81 = .ok (.ireturn, 1) := by decide +kernel
theorem dX2_takeLetter_0 : decode cX2_takeLetter 0 = .ok (.iload_n 1, 1) := by decide +kernel
theorem dX2_takeLetter_1 : decode cX2_takeLetter 1 = .ok (.bipush 97, 2) := by decide +kernel
theorem dX2_takeLetter_3 : decode cX2_takeLetter 3 = .ok (.if_icmp .lt 9, 3) := by decide +kernel
theorem dX2_takeLetter_6 : decode cX2_takeLetter 6 = .ok (.iload_n 1, 1) := by decide +kernel
theorem dX2_takeLetter_7 : decode cX2_takeLetter 7 = .ok (.bipush 101, 2) := by decide +kernel
theorem dX2_takeLetter_9 : decode cX2_takeLetter 9 = .ok (.if_icmp .lt 5, 3) := by decide +kernel
theorem dX2_takeLetter_12 : decode cX2_takeLetter 12 = .ok (.iconst 0, 1) := by decide +kernel
theorem dX2_takeLetter_13 : decode cX2_takeLetter 13 = .ok (.ireturn, 1) := by decide +kernel
theorem dX2_takeLetter_14 : decode cX2_takeLetter 14 = .ok (.aload_n 0, 1) := by decide +kernel
theorem dX2_takeLetter_15 : decode cX2_takeLetter 15 = .ok (.iload_n 1, 1) := by decide +kernel
theorem dX2_takeLetter_16 : decode cX2_takeLetter 16 = .ok (.bipush 97, 2) := by decide +kernel
theorem dX2_takeLetter_18 : decode cX2_takeLetter 18 = .ok (.isub, 1) := by decide +kernel
theorem dX2_takeLetter_19 : decode cX2_takeLetter 19 = .ok (.putfield 15, 3) := by decide +kernel
theorem dX2_takeLetter_22 : decode cX2_takeLetter 22 = .ok (.aload_n 0, 1) := by decide +kernel
theorem dX2_takeLetter_23 : decode cX2_takeLetter 23 = .ok (.iconst 1, 1) := by decide +kernel
theorem dX2_takeLetter_24 : decode cX2_takeLetter 24 = .ok (.putfield 11, 3) := by decide +kernel
theorem dX2_takeLetter_27 : decode cX2_takeLetter 27 = .ok (.iconst 1, 1) := by decide +kernel
theorem dX2_takeLetter_28 : decode cX2_takeLetter 28 = .ok (.ireturn, 1) := by decide +kernel
theorem dX2_takeKind_0 : decode cX2_takeKind 0 = .ok (.iload_n 1, 1) := by decide +kernel
theorem dX2_takeKind_1 : decode cX2_takeKind 1 = .ok (.bipush 43, 2) := by decide +kernel
theorem dX2_takeKind_3 : decode cX2_takeKind 3 = .ok (.if_icmp .eq 15, 3) := by decide +kernel
theorem dX2_takeKind_6 : decode cX2_takeKind 6 = .ok (.iload_n 1, 1) := by decide +kernel
theorem dX2_takeKind_7 : decode cX2_takeKind 7 = .ok (.bipush 45, 2) := by decide +kernel
theorem dX2_takeKind_9 : decode cX2_takeKind 9 = .ok (.if_icmp .eq 9, 3) := by decide +kernel
theorem dX2_takeKind_12 : decode cX2_takeKind 12 = .ok (.iload_n 1, 1) := by decide +kernel
theorem dX2_takeKind_13 : decode cX2_takeKind 13 = .ok (.bipush 61, 2) := by decide +kernel
theorem dX2_takeKind_15 : decode cX2_takeKind 15 = .ok (.if_icmp .ne 7, 3) := by decide +kernel
theorem dX2_takeKind_18 : decode cX2_takeKind 18 = .ok (.iconst 1, 1) := by decide +kernel
theorem dX2_takeKind_19 : decode cX2_takeKind 19 = .ok (.goto 4, 3) := by decide +kernel
theorem dX2_takeKind_22 : decode cX2_takeKind 22 = .ok (.iconst 0, 1) := by decide +kernel
theorem dX2_takeKind_23 : decode cX2_takeKind 23 = .ok (.istore_n 2, 1) := by decide +kernel
theorem dX2_takeKind_24 : decode cX2_takeKind 24 = .ok (.iload_n 2, 1) := by decide +kernel
theorem dX2_takeKind_25 : decode cX2_takeKind 25 = .ok (.ifCond .ne 17, 3) := by decide +kernel
theorem dX2_takeKind_28 : decode cX2_takeKind 28 = .ok (.iload_n 1, 1) := by decide +kernel
theorem dX2_takeKind_29 : decode cX2_takeKind 29 = .ok (.bipush 104, 2) := by decide +kernel
theorem dX2_takeKind_31 : decode cX2_takeKind 31 = .ok (.if_icmp .eq 11, 3) := by decide +kernel
theorem dX2_takeKind_34 : decode cX2_takeKind 34 = .ok (.iload_n 1, 1) := by decide +kernel
theorem dX2_takeKind_35 : decode cX2_takeKind 35 = .ok (.bipush 103, 2) := by decide +kernel
theorem dX2_takeKind_37 : decode cX2_takeKind 37 = .ok (.if_icmp .eq 5, 3) := by decide +kernel
theorem dX2_takeKind_40 : decode cX2_takeKind 40 = .ok (.iconst 0, 1) := by decide +kernel
theorem dX2_takeKind_41 : decode cX2_takeKind 41 = .ok (.ireturn, 1) := by decide +kernel
theorem dX2_takeKind_42 : decode cX2_takeKind 42 = .ok (.aload_n 0, 1) := by decide +kernel
theorem dX2_takeKind_43 : decode cX2_takeKind 43 = .ok (.iload_n 1, 1) := by decide +kernel
theorem dX2_takeKind_44 : decode cX2_takeKind 44 = .ok (.putfield 18, 3) := by decide +kernel
theorem dX2_takeKind_47 : decode cX2_takeKind 47 = .ok (.aload_n 0, 1) := by decide +kernel
theorem dX2_takeKind_48 : decode cX2_takeKind 48 = .ok (.iload_n 2, 1) := by decide +kernel
theorem dX2_takeKind_49 : decode cX2_takeKind 49 = .ok (.ifCond .eq 7, 3) := by decide +kernel
theorem dX2_takeKind_52 : decode cX2_takeKind 52 = .ok (.iconst 2, 1) := by decide +kernel
theorem dX2_takeKind_53 : decode cX2_takeKind 53 = .ok (.goto 4, 3) := by decide +kernel
theorem dX2_takeKind_56 : decode cX2_takeKind 56 = .ok (.iconst 4, 1) := by decide +kernel
theorem dX2_takeKind_57 : decode cX2_takeKind 57 = .ok (.putfield 11, 3) := by decide +kernel
theorem dX2_takeKind_60 : decode cX2_takeKind 60 = .ok (.iconst 1, 1) := by decide +kernel
theorem dX2_takeKind_61 : decode cX2_takeKind 61 = .ok (.ireturn, 1) := by decide +kernel
theorem dX2_takeFirstDigit_0 : decode cX2_takeFirstDigit 0 = .ok (.aload_n 0, 1) := by decide +kernel
theorem dX2_takeFirstDigit_1 : decode cX2_takeFirstDigit 1 = .ok (.getfield 18, 3) := by decide +kernel
theorem dX2_takeFirstDigit_4 : decode cX2_takeFirstDigit 4 = .ok (.bipush 61, 2) := by decide +kernel
theorem dX2_takeFirstDigit_6 : decode cX2_takeFirstDigit 6 = .ok (.if_icmp .ne 8, 3) := by decide +kernel
theorem dX2_takeFirstDigit_9 : decode cX2_takeFirstDigit 9 = .ok (.bipush 48, 2) := by decide +kernel
theorem dX2_takeFirstDigit_11 : decode cX2_takeFirstDigit 11 = .ok (.goto 5, 3) := by decide +kernel
theorem dX2_takeFirstDigit_14 : decode cX2_takeFirstDigit 14 = .ok (.bipush 49, 2) := by decide +kernel
theorem dX2_takeFirstDigit_16 : decode cX2_takeFirstDigit 16 = .ok (.istore_n 2, 1) := by decide +kernel
theorem dX2_takeFirstDigit_17 : decode cX2_takeFirstDigit 17 = .ok (.iload_n 1, 1) := by decide +kernel
theorem dX2_takeFirstDigit_18 : decode cX2_takeFirstDigit 18 = .ok (.iload_n 2, 1) := by decide +kernel
theorem dX2_takeFirstDigit_19 : decode cX2_takeFirstDigit 19 = .ok (.if_icmp .lt 9, 3) := by decide +kernel
theorem dX2_takeFirstDigit_22 : decode cX2_takeFirstDigit 22 = .ok (.iload_n 1, 1) := by decide +kernel
theorem dX2_takeFirstDigit_23 : decode cX2_takeFirstDigit 23 = .ok (.bipush 57, 2) := by decide +kernel
theorem dX2_takeFirstDigit_25 : decode cX2_takeFirstDigit 25 = .ok (.if_icmp .le 5, 3) := by decide +kernel
theorem dX2_takeFirstDigit_28 : decode cX2_takeFirstDigit 28 = .ok (.iconst 0, 1) := by decide +kernel
theorem dX2_takeFirstDigit_29 : decode cX2_takeFirstDigit 29 = .ok (.ireturn, 1) := by decide +kernel
theorem dX2_takeFirstDigit_30 : decode cX2_takeFirstDigit 30 = .ok (.aload_n 0, 1) := by decide +kernel
theorem dX2_takeFirstDigit_31 : decode cX2_takeFirstDigit 31 = .ok (.iload_n 1, 1) := by decide +kernel
theorem dX2_takeFirstDigit_32 : decode cX2_takeFirstDigit 32 = .ok (.bipush 48, 2) := by decide +kernel
theorem dX2_takeFirstDigit_34 : decode cX2_takeFirstDigit 34 = .ok (.isub, 1) := by decide +kernel
theorem dX2_takeFirstDigit_35 : decode cX2_takeFirstDigit 35 = .ok (.putfield 21, 3) := by decide +kernel
theorem dX2_takeFirstDigit_38 : decode cX2_takeFirstDigit 38 = .ok (.aload_n 0, 1) := by decide +kernel
theorem dX2_takeFirstDigit_39 : decode cX2_takeFirstDigit 39 = .ok (.iconst 3, 1) := by decide +kernel
theorem dX2_takeFirstDigit_40 : decode cX2_takeFirstDigit 40 = .ok (.putfield 11, 3) := by decide +kernel
theorem dX2_takeFirstDigit_43 : decode cX2_takeFirstDigit 43 = .ok (.iconst 1, 1) := by decide +kernel
theorem dX2_takeFirstDigit_44 : decode cX2_takeFirstDigit 44 = .ok (.ireturn, 1) := by decide +kernel
theorem dX2_takeSecondDigit_0 : decode cX2_takeSecondDigit 0 = .ok (.aload_n 0, 1) := by decide +kernel
theorem dX2_takeSecondDigit_1 : decode cX2_takeSecondDigit 1 = .ok (.getfield 18, 3) := by decide +kernel
theorem dX2_takeSecondDigit_4 : decode cX2_takeSecondDigit 4 = .ok (.bipush 61, 2) := by decide +kernel
theorem dX2_takeSecondDigit_6 : decode cX2_takeSecondDigit 6 = .ok (.if_icmp .ne 8, 3) := by decide +kernel
theorem dX2_takeSecondDigit_9 : decode cX2_takeSecondDigit 9 = .ok (.bipush 23, 2) := by decide +kernel
theorem dX2_takeSecondDigit_11 : decode cX2_takeSecondDigit 11 = .ok (.goto 5, 3) := by decide +kernel
theorem dX2_takeSecondDigit_14 : decode cX2_takeSecondDigit 14 = .ok (.bipush 24, 2) := by decide +kernel
theorem dX2_takeSecondDigit_16 : decode cX2_takeSecondDigit 16 = .ok (.istore_n 2, 1) := by decide +kernel
theorem dX2_takeSecondDigit_17 : decode cX2_takeSecondDigit 17 = .ok (.bipush 10, 2) := by decide +kernel
theorem dX2_takeSecondDigit_19 : decode cX2_takeSecondDigit 19 = .ok (.aload_n 0, 1) := by decide +kernel
theorem dX2_takeSecondDigit_20 : decode cX2_takeSecondDigit 20 = .ok (.getfield 21, 3) := by decide +kernel
theorem dX2_takeSecondDigit_23 : decode cX2_takeSecondDigit 23 = .ok (.imul, 1) := by decide +kernel
theorem dX2_takeSecondDigit_24 : decode cX2_takeSecondDigit 24 = .ok (.iload_n 1, 1) := by decide +kernel
theorem dX2_takeSecondDigit_25 : decode cX2_takeSecondDigit 25 = .ok (.iadd, 1) := by decide +kernel
theorem dX2_takeSecondDigit_26 : decode cX2_takeSecondDigit 26 = .ok (.bipush 48, 2) := by decide +kernel
theorem dX2_takeSecondDigit_28 : decode cX2_takeSecondDigit 28 = .ok (.isub, 1) := by decide +kernel
theorem dX2_takeSecondDigit_29 : decode cX2_takeSecondDigit 29 = .ok (.istore_n 3, 1) := by decide +kernel
theorem dX2_takeSecondDigit_30 : decode cX2_takeSecondDigit 30 = .ok (.iload_n 1, 1) := by decide +kernel
theorem dX2_takeSecondDigit_31 : decode cX2_takeSecondDigit 31 = .ok (.bipush 48, 2) := by decide +kernel
theorem dX2_takeSecondDigit_33 : decode cX2_takeSecondDigit 33 = .ok (.if_icmp .lt 21, 3) := by decide +kernel
theorem dX2_takeSecondDigit_36 : decode cX2_takeSecondDigit 36 = .ok (.iload_n 1, 1) := by decide +kernel
theorem dX2_takeSecondDigit_37 : decode cX2_takeSecondDigit 37 = .ok (.bipush 57, 2) := by decide +kernel
theorem dX2_takeSecondDigit_39 : decode cX2_takeSecondDigit 39 = .ok (.if_icmp .gt 15, 3) := by decide +kernel
theorem dX2_takeSecondDigit_42 : decode cX2_takeSecondDigit 42 = .ok (.aload_n 0, 1) := by decide +kernel
theorem dX2_takeSecondDigit_43 : decode cX2_takeSecondDigit 43 = .ok (.getfield 21, 3) := by decide +kernel
theorem dX2_takeSecondDigit_46 : decode cX2_takeSecondDigit 46 = .ok (.ifCond .eq 8, 3) := by decide +kernel
theorem dX2_takeSecondDigit_49 : decode cX2_takeSecondDigit 49 = .ok (.iload_n 3, 1) := by decide +kernel
theorem dX2_takeSecondDigit_50 : decode cX2_takeSecondDigit 50 = .ok (.iload_n 2, 1) := by decide +kernel
theorem dX2_takeSecondDigit_51 : decode cX2_takeSecondDigit 51 = .ok (.if_icmp .le 5, 3) := by decide +kernel
theorem dX2_takeSecondDigit_54 : decode cX2_takeSecondDigit 54 = .ok (.iconst 0, 1) := by decide +kernel
theorem dX2_takeSecondDigit_55 : decode cX2_takeSecondDigit 55 = .ok (.ireturn, 1) := by decide +kernel
theorem dX2_takeSecondDigit_56 : decode cX2_takeSecondDigit 56 = .ok (.aload_n 0, 1) := by decide +kernel
theorem dX2_takeSecondDigit_57 : decode cX2_takeSecondDigit 57 = .ok (.iload_n 3, 1) := by decide +kernel
theorem dX2_takeSecondDigit_58 : decode cX2_takeSecondDigit 58 = .ok (.putfield 21, 3) := by decide +kernel
theorem dX2_takeSecondDigit_61 : decode cX2_takeSecondDigit 61 = .ok (.aload_n 0, 1) := by decide +kernel
theorem dX2_takeSecondDigit_62 : decode cX2_takeSecondDigit 62 = .ok (.iconst 4, 1) := by decide +kernel
theorem dX2_takeSecondDigit_63 : decode cX2_takeSecondDigit 63 = .ok (.putfield 11, 3) := by decide +kernel
theorem dX2_takeSecondDigit_66 : decode cX2_takeSecondDigit 66 = .ok (.iconst 1, 1) := by decide +kernel
theorem dX2_takeSecondDigit_67 : decode cX2_takeSecondDigit 67 = .ok (.ireturn, 1) := by decide +kernel
theorem dX2_takeSeparator_0 : decode cX2_takeSeparator 0 = .ok (.iload_n 1, 1) := by decide +kernel
theorem dX2_takeSeparator_1 : decode cX2_takeSeparator 1 = .ok (.bipush 59, 2) := by decide +kernel
theorem dX2_takeSeparator_3 : decode cX2_takeSeparator 3 = .ok (.if_icmp .eq 5, 3) := by decide +kernel
theorem dX2_takeSeparator_6 : decode cX2_takeSeparator 6 = .ok (.iconst 0, 1) := by decide +kernel
theorem dX2_takeSeparator_7 : decode cX2_takeSeparator 7 = .ok (.ireturn, 1) := by decide +kernel
theorem dX2_takeSeparator_8 : decode cX2_takeSeparator 8 = .ok (.aload_n 0, 1) := by decide +kernel
theorem dX2_takeSeparator_9 : decode cX2_takeSeparator 9 = .ok (.iconst 0, 1) := by decide +kernel
theorem dX2_takeSeparator_10 : decode cX2_takeSeparator 10 = .ok (.putfield 11, 3) := by decide +kernel
theorem dX2_takeSeparator_13 : decode cX2_takeSeparator 13 = .ok (.iconst 1, 1) := by decide +kernel
theorem dX2_takeSeparator_14 : decode cX2_takeSeparator 14 = .ok (.ireturn, 1) := by decide +kernel
theorem dX3_init_0 : decode cX3_init 0 = .ok (.aload_n 0, 1) := by decide +kernel
theorem dX3_init_1 : decode cX3_init 1 = .ok (.invokespecial 1, 3) := by decide +kernel
theorem dX3_init_4 : decode cX3_init 4 = .ok (.aload_n 0, 1) := by decide +kernel
theorem dX3_init_5 : decode cX3_init 5 = .ok (.iconst 3, 1) := by decide +kernel
theorem dX3_init_6 : decode cX3_init 6 = .ok (.putfield 7, 3) := by decide +kernel
theorem dX3_init_9 : decode cX3_init 9 = .ok (.aload_n 0, 1) := by decide +kernel
theorem dX3_init_10 : decode cX3_init 10 = .ok (.bipush 10, 2) := by decide +kernel
theorem dX3_init_12 : decode cX3_init 12 = .ok (.putfield 13, 3) := by decide +kernel
theorem dX3_init_15 : decode cX3_init 15 = .ok (.aload_n 0, 1) := by decide +kernel
theorem dX3_init_16 : decode cX3_init 16 = .ok (.bipush 40, 2) := by decide +kernel
theorem dX3_init_18 : decode cX3_init 18 = .ok (.putfield 16, 3) := by decide +kernel
theorem dX3_init_21 : decode cX3_init 21 = .ok (.aload_n 0, 1) := by decide +kernel
theorem dX3_init_22 : decode cX3_init 22 = .ok (.iconst 1, 1) := by decide +kernel
theorem dX3_init_23 : decode cX3_init 23 = .ok (.putfield 19, 3) := by decide +kernel
theorem dX3_init_26 : decode cX3_init 26 = .ok (.aload_n 0, 1) := by decide +kernel
theorem dX3_init_27 : decode cX3_init 27 = .ok (.bipush 12, 2) := by decide +kernel
theorem dX3_init_29 : decode cX3_init 29 = .ok (.putfield 22, 3) := by decide +kernel
theorem dX3_init_32 : decode cX3_init 32 = .ok (.aload_n 0, 1) := by decide +kernel
theorem dX3_init_33 : decode cX3_init 33 = .ok (.bipush 15, 2) := by decide +kernel
theorem dX3_init_35 : decode cX3_init 35 = .ok (.putfield 25, 3) := by decide +kernel
theorem dX3_init_38 : decode cX3_init 38 = .ok (.return_, 1) := by decide +kernel
theorem dX3_valueOf_0 : decode cX3_valueOf 0 = .ok (.iload_n 1, 1) := by decide +kernel
theorem dX3_valueOf_1 : decode cX3_valueOf 1 = .ok (.tableswitch 60 0 4 #[35, 40, 45, 50, 55], 35) := by decide +kernel
theorem dX3_valueOf_36 : decode cX3_valueOf 36 = .ok (.aload_n 0, 1) := by decide +kernel
theorem dX3_valueOf_37 : decode cX3_valueOf 37 = .ok (.getfield 7, 3) := by decide +kernel
theorem dX3_valueOf_40 : decode cX3_valueOf 40 = .ok (.ireturn, 1) := by decide +kernel
theorem dX3_valueOf_41 : decode cX3_valueOf 41 = .ok (.aload_n 0, 1) := by decide +kernel
theorem dX3_valueOf_42 : decode cX3_valueOf 42 = .ok (.getfield 13, 3) := by decide +kernel
theorem dX3_valueOf_45 : decode cX3_valueOf 45 = .ok (.ireturn, 1) := by decide +kernel
theorem dX3_valueOf_46 : decode cX3_valueOf 46 = .ok (.aload_n 0, 1) := by decide +kernel
theorem dX3_valueOf_47 : decode cX3_valueOf 47 = .ok (.getfield 16, 3) := by decide +kernel
theorem dX3_valueOf_50 : decode cX3_valueOf 50 = .ok (.ireturn, 1) := by decide +kernel
theorem dX3_valueOf_51 : decode cX3_valueOf 51 = .ok (.aload_n 0, 1) := by decide +kernel
theorem dX3_valueOf_52 : decode cX3_valueOf 52 = .ok (.getfield 19, 3) := by decide +kernel
theorem dX3_valueOf_55 : decode cX3_valueOf 55 = .ok (.ireturn, 1) := by decide +kernel
theorem dX3_valueOf_56 : decode cX3_valueOf 56 = .ok (.aload_n 0, 1) := by decide +kernel
theorem dX3_valueOf_57 : decode cX3_valueOf 57 = .ok (.getfield 22, 3) := by decide +kernel
theorem dX3_valueOf_60 : decode cX3_valueOf 60 = .ok (.ireturn, 1) := by decide +kernel
theorem dX3_valueOf_61 : decode cX3_valueOf 61 = .ok (.aload_n 0, 1) := by decide +kernel
theorem dX3_valueOf_62 : decode cX3_valueOf 62 = .ok (.getfield 25, 3) := by decide +kernel
theorem dX3_valueOf_65 : decode cX3_valueOf 65 = .ok (.ireturn, 1) := by decide +kernel
theorem dX3_put_0 : decode cX3_put 0 = .ok (.iload_n 1, 1) := by decide +kernel
theorem dX3_put_1 : decode cX3_put 1 = .ok (.tableswitch 75 0 4 #[35, 43, 51, 59, 67], 35) := by decide +kernel
theorem dX3_put_36 : decode cX3_put 36 = .ok (.aload_n 0, 1) := by decide +kernel
theorem dX3_put_37 : decode cX3_put 37 = .ok (.iload_n 2, 1) := by decide +kernel
theorem dX3_put_38 : decode cX3_put 38 = .ok (.putfield 7, 3) := by decide +kernel
theorem dX3_put_41 : decode cX3_put 41 = .ok (.goto 40, 3) := by decide +kernel
theorem dX3_put_44 : decode cX3_put 44 = .ok (.aload_n 0, 1) := by decide +kernel
theorem dX3_put_45 : decode cX3_put 45 = .ok (.iload_n 2, 1) := by decide +kernel
theorem dX3_put_46 : decode cX3_put 46 = .ok (.putfield 13, 3) := by decide +kernel
theorem dX3_put_49 : decode cX3_put 49 = .ok (.goto 32, 3) := by decide +kernel
theorem dX3_put_52 : decode cX3_put 52 = .ok (.aload_n 0, 1) := by decide +kernel
theorem dX3_put_53 : decode cX3_put 53 = .ok (.iload_n 2, 1) := by decide +kernel
theorem dX3_put_54 : decode cX3_put 54 = .ok (.putfield 16, 3) := by decide +kernel
theorem dX3_put_57 : decode cX3_put 57 = .ok (.goto 24, 3) := by decide +kernel
theorem dX3_put_60 : decode cX3_put 60 = .ok (.aload_n 0, 1) := by decide +kernel
theorem dX3_put_61 : decode cX3_put 61 = .ok (.iload_n 2, 1) := by decide +kernel
theorem dX3_put_62 : decode cX3_put 62 = .ok (.putfield 19, 3) := by decide +kernel
theorem dX3_put_65 : decode cX3_put 65 = .ok (.goto 16, 3) := by decide +kernel
theorem dX3_put_68 : decode cX3_put 68 = .ok (.aload_n 0, 1) := by decide +kernel
theorem dX3_put_69 : decode cX3_put 69 = .ok (.iload_n 2, 1) := by decide +kernel
theorem dX3_put_70 : decode cX3_put 70 = .ok (.putfield 22, 3) := by decide +kernel
theorem dX3_put_73 : decode cX3_put 73 = .ok (.goto 8, 3) := by decide +kernel
theorem dX3_put_76 : decode cX3_put 76 = .ok (.aload_n 0, 1) := by decide +kernel
theorem dX3_put_77 : decode cX3_put 77 = .ok (.iload_n 2, 1) := by decide +kernel
theorem dX3_put_78 : decode cX3_put 78 = .ok (.putfield 25, 3) := by decide +kernel
theorem dX3_put_81 : decode cX3_put 81 = .ok (.return_, 1) := by decide +kernel
theorem dX3_copyFrom_0 : decode cX3_copyFrom 0 = .ok (.aload_n 0, 1) := by decide +kernel
theorem dX3_copyFrom_1 : decode cX3_copyFrom 1 = .ok (.aload_n 1, 1) := by decide +kernel
theorem dX3_copyFrom_2 : decode cX3_copyFrom 2 = .ok (.getfield 7, 3) := by decide +kernel
theorem dX3_copyFrom_5 : decode cX3_copyFrom 5 = .ok (.putfield 7, 3) := by decide +kernel
theorem dX3_copyFrom_8 : decode cX3_copyFrom 8 = .ok (.aload_n 0, 1) := by decide +kernel
theorem dX3_copyFrom_9 : decode cX3_copyFrom 9 = .ok (.aload_n 1, 1) := by decide +kernel
theorem dX3_copyFrom_10 : decode cX3_copyFrom 10 = .ok (.getfield 13, 3) := by decide +kernel
theorem dX3_copyFrom_13 : decode cX3_copyFrom 13 = .ok (.putfield 13, 3) := by decide +kernel
theorem dX3_copyFrom_16 : decode cX3_copyFrom 16 = .ok (.aload_n 0, 1) := by decide +kernel
theorem dX3_copyFrom_17 : decode cX3_copyFrom 17 = .ok (.aload_n 1, 1) := by decide +kernel
theorem dX3_copyFrom_18 : decode cX3_copyFrom 18 = .ok (.getfield 16, 3) := by decide +kernel
theorem dX3_copyFrom_21 : decode cX3_copyFrom 21 = .ok (.putfield 16, 3) := by decide +kernel
theorem dX3_copyFrom_24 : decode cX3_copyFrom 24 = .ok (.aload_n 0, 1) := by decide +kernel
theorem dX3_copyFrom_25 : decode cX3_copyFrom 25 = .ok (.aload_n 1, 1) := by decide +kernel
theorem dX3_copyFrom_26 : decode cX3_copyFrom 26 = .ok (.getfield 19, 3) := by decide +kernel
theorem dX3_copyFrom_29 : decode cX3_copyFrom 29 = .ok (.putfield 19, 3) := by decide +kernel
theorem dX3_copyFrom_32 : decode cX3_copyFrom 32 = .ok (.aload_n 0, 1) := by decide +kernel
theorem dX3_copyFrom_33 : decode cX3_copyFrom 33 = .ok (.aload_n 1, 1) := by decide +kernel
theorem dX3_copyFrom_34 : decode cX3_copyFrom 34 = .ok (.getfield 22, 3) := by decide +kernel
theorem dX3_copyFrom_37 : decode cX3_copyFrom 37 = .ok (.putfield 22, 3) := by decide +kernel
theorem dX3_copyFrom_40 : decode cX3_copyFrom 40 = .ok (.aload_n 0, 1) := by decide +kernel
theorem dX3_copyFrom_41 : decode cX3_copyFrom 41 = .ok (.aload_n 1, 1) := by decide +kernel
theorem dX3_copyFrom_42 : decode cX3_copyFrom 42 = .ok (.getfield 25, 3) := by decide +kernel
theorem dX3_copyFrom_45 : decode cX3_copyFrom 45 = .ok (.putfield 25, 3) := by decide +kernel
theorem dX3_copyFrom_48 : decode cX3_copyFrom 48 = .ok (.return_, 1) := by decide +kernel
theorem dX4_init_0 : decode cX4_init 0 = .ok (.aload_n 0, 1) := by decide +kernel
theorem dX4_init_1 : decode cX4_init 1 = .ok (.invokespecial 3, 3) := by decide +kernel
theorem dX4_init_4 : decode cX4_init 4 = .ok (.aload_n 0, 1) := by decide +kernel
theorem dX4_init_5 : decode cX4_init 5 = .ok (.new 9, 3) := by decide +kernel
theorem dX4_init_8 : decode cX4_init 8 = .ok (.dup, 1) := by decide +kernel
theorem dX4_init_9 : decode cX4_init 9 = .ok (.invokespecial 11, 3) := by decide +kernel
theorem dX4_init_12 : decode cX4_init 12 = .ok (.putfield 12, 3) := by decide +kernel
theorem dX4_init_15 : decode cX4_init 15 = .ok (.aload_n 0, 1) := by decide +kernel
theorem dX4_init_16 : decode cX4_init 16 = .ok (.iconst 4, 1) := by decide +kernel
theorem dX4_init_17 : decode cX4_init 17 = .ok (.anewarray 18, 3) := by decide +kernel
theorem dX4_init_20 : decode cX4_init 20 = .ok (.putfield 20, 3) := by decide +kernel
theorem dX4_init_23 : decode cX4_init 23 = .ok (.aload_n 0, 1) := by decide +kernel
theorem dX4_init_24 : decode cX4_init 24 = .ok (.sipush 1000, 3) := by decide +kernel
theorem dX4_init_27 : decode cX4_init 27 = .ok (.putfield 24, 3) := by decide +kernel
theorem dX4_init_30 : decode cX4_init 30 = .ok (.aload_n 0, 1) := by decide +kernel
theorem dX4_init_31 : decode cX4_init 31 = .ok (.iconst 0, 1) := by decide +kernel
theorem dX4_init_32 : decode cX4_init 32 = .ok (.putfield 28, 3) := by decide +kernel
theorem dX4_init_35 : decode cX4_init 35 = .ok (.iconst 0, 1) := by decide +kernel
theorem dX4_init_36 : decode cX4_init 36 = .ok (.istore_n 1, 1) := by decide +kernel
theorem dX4_init_37 : decode cX4_init 37 = .ok (.iload_n 1, 1) := by decide +kernel
theorem dX4_init_38 : decode cX4_init 38 = .ok (.aload_n 0, 1) := by decide +kernel
theorem dX4_init_39 : decode cX4_init 39 = .ok (.getfield 20, 3) := by decide +kernel
theorem dX4_init_42 : decode cX4_init 42 = .ok (.arraylength, 1) := by decide +kernel
theorem dX4_init_43 : decode cX4_init 43 = .ok (.if_icmp .ge 22, 3) := by decide +kernel
theorem dX4_init_46 : decode cX4_init 46 = .ok (.aload_n 0, 1) := by decide +kernel
theorem dX4_init_47 : decode cX4_init 47 = .ok (.getfield 20, 3) := by decide +kernel
theorem dX4_init_50 : decode cX4_init 50 = .ok (.iload_n 1, 1) := by decide +kernel
theorem dX4_init_51 : decode cX4_init 51 = .ok (.new 18, 3) := by decide +kernel
theorem dX4_init_54 : decode cX4_init 54 = .ok (.dup, 1) := by decide +kernel
theorem dX4_init_55 : decode cX4_init 55 = .ok (.invokespecial 31, 3) := by decide +kernel
theorem dX4_init_58 : decode cX4_init 58 = .ok (.aastore, 1) := by decide +kernel
theorem dX4_init_59 : decode cX4_init 59 = .ok (.iinc 1 1, 3) := by decide +kernel
theorem dX4_init_62 : decode cX4_init 62 = .ok (.goto (-25), 3) := by decide +kernel
theorem dX4_init_65 : decode cX4_init 65 = .ok (.return_, 1) := by decide +kernel
theorem dX4_gearAt_0 : decode cX4_gearAt 0 = .ok (.iload_n 1, 1) := by decide +kernel
theorem dX4_gearAt_1 : decode cX4_gearAt 1 = .ok (.ifCond .lt 21, 3) := by decide +kernel
theorem dX4_gearAt_4 : decode cX4_gearAt 4 = .ok (.iload_n 1, 1) := by decide +kernel
theorem dX4_gearAt_5 : decode cX4_gearAt 5 = .ok (.aload_n 0, 1) := by decide +kernel
theorem dX4_gearAt_6 : decode cX4_gearAt 6 = .ok (.getfield 20, 3) := by decide +kernel
theorem dX4_gearAt_9 : decode cX4_gearAt 9 = .ok (.arraylength, 1) := by decide +kernel
theorem dX4_gearAt_10 : decode cX4_gearAt 10 = .ok (.if_icmp .ge 12, 3) := by decide +kernel
theorem dX4_gearAt_13 : decode cX4_gearAt 13 = .ok (.aload_n 0, 1) := by decide +kernel
theorem dX4_gearAt_14 : decode cX4_gearAt 14 = .ok (.getfield 20, 3) := by decide +kernel
theorem dX4_gearAt_17 : decode cX4_gearAt 17 = .ok (.iload_n 1, 1) := by decide +kernel
theorem dX4_gearAt_18 : decode cX4_gearAt 18 = .ok (.aaload, 1) := by decide +kernel
theorem dX4_gearAt_19 : decode cX4_gearAt 19 = .ok (.goto 4, 3) := by decide +kernel
theorem dX4_gearAt_22 : decode cX4_gearAt 22 = .ok (.aconst_null, 1) := by decide +kernel
theorem dX4_gearAt_23 : decode cX4_gearAt 23 = .ok (.areturn, 1) := by decide +kernel
theorem dX4_payCare_0 : decode cX4_payCare 0 = .ok (.aload_n 0, 1) := by decide +kernel
theorem dX4_payCare_1 : decode cX4_payCare 1 = .ok (.dup, 1) := by decide +kernel
theorem dX4_payCare_2 : decode cX4_payCare 2 = .ok (.getfield 24, 3) := by decide +kernel
theorem dX4_payCare_5 : decode cX4_payCare 5 = .ok (.iload_n 1, 1) := by decide +kernel
theorem dX4_payCare_6 : decode cX4_payCare 6 = .ok (.isub, 1) := by decide +kernel
theorem dX4_payCare_7 : decode cX4_payCare 7 = .ok (.putfield 24, 3) := by decide +kernel
theorem dX4_payCare_10 : decode cX4_payCare 10 = .ok (.aload_n 0, 1) := by decide +kernel
theorem dX4_payCare_11 : decode cX4_payCare 11 = .ok (.dup, 1) := by decide +kernel
theorem dX4_payCare_12 : decode cX4_payCare 12 = .ok (.getfield 28, 3) := by decide +kernel
theorem dX4_payCare_15 : decode cX4_payCare 15 = .ok (.iload_n 1, 1) := by decide +kernel
theorem dX4_payCare_16 : decode cX4_payCare 16 = .ok (.iadd, 1) := by decide +kernel
theorem dX4_payCare_17 : decode cX4_payCare 17 = .ok (.putfield 28, 3) := by decide +kernel
theorem dX4_payCare_20 : decode cX4_payCare 20 = .ok (.return_, 1) := by decide +kernel
theorem dX4_sumOf_0 : decode cX4_sumOf 0 = .ok (.iconst 0, 1) := by decide +kernel
theorem dX4_sumOf_1 : decode cX4_sumOf 1 = .ok (.istore_n 2, 1) := by decide +kernel
theorem dX4_sumOf_2 : decode cX4_sumOf 2 = .ok (.iconst 0, 1) := by decide +kernel
theorem dX4_sumOf_3 : decode cX4_sumOf 3 = .ok (.istore_n 3, 1) := by decide +kernel
theorem dX4_sumOf_4 : decode cX4_sumOf 4 = .ok (.iload_n 3, 1) := by decide +kernel
theorem dX4_sumOf_5 : decode cX4_sumOf 5 = .ok (.iconst 4, 1) := by decide +kernel
theorem dX4_sumOf_6 : decode cX4_sumOf 6 = .ok (.if_icmp .ge 30, 3) := by decide +kernel
theorem dX4_sumOf_9 : decode cX4_sumOf 9 = .ok (.aload_n 0, 1) := by decide +kernel
theorem dX4_sumOf_10 : decode cX4_sumOf 10 = .ok (.iload_n 3, 1) := by decide +kernel
theorem dX4_sumOf_11 : decode cX4_sumOf 11 = .ok (.invokevirtual 32, 3) := by decide +kernel
theorem dX4_sumOf_14 : decode cX4_sumOf 14 = .ok (.astore 4, 2) := by decide +kernel
theorem dX4_sumOf_16 : decode cX4_sumOf 16 = .ok (.aload 4, 2) := by decide +kernel
theorem dX4_sumOf_18 : decode cX4_sumOf 18 = .ok (.ifnull 12, 3) := by decide +kernel
theorem dX4_sumOf_21 : decode cX4_sumOf 21 = .ok (.iload_n 2, 1) := by decide +kernel
theorem dX4_sumOf_22 : decode cX4_sumOf 22 = .ok (.aload 4, 2) := by decide +kernel
theorem dX4_sumOf_24 : decode cX4_sumOf 24 = .ok (.iload_n 1, 1) := by decide +kernel
theorem dX4_sumOf_25 : decode cX4_sumOf 25 = .ok (.invokevirtual 36, 3) := by decide +kernel
theorem dX4_sumOf_28 : decode cX4_sumOf 28 = .ok (.iadd, 1) := by decide +kernel
theorem dX4_sumOf_29 : decode cX4_sumOf 29 = .ok (.istore_n 2, 1) := by decide +kernel
theorem dX4_sumOf_30 : decode cX4_sumOf 30 = .ok (.iinc 3 1, 3) := by decide +kernel
theorem dX4_sumOf_33 : decode cX4_sumOf 33 = .ok (.goto (-29), 3) := by decide +kernel
theorem dX4_sumOf_36 : decode cX4_sumOf 36 = .ok (.iload_n 2, 1) := by decide +kernel
theorem dX4_sumOf_37 : decode cX4_sumOf 37 = .ok (.ireturn, 1) := by decide +kernel
theorem dX4_wearOfAll_0 : decode cX4_wearOfAll 0 = .ok (.iconst 0, 1) := by decide +kernel
theorem dX4_wearOfAll_1 : decode cX4_wearOfAll 1 = .ok (.istore_n 1, 1) := by decide +kernel
theorem dX4_wearOfAll_2 : decode cX4_wearOfAll 2 = .ok (.iconst 0, 1) := by decide +kernel
theorem dX4_wearOfAll_3 : decode cX4_wearOfAll 3 = .ok (.istore_n 2, 1) := by decide +kernel
theorem dX4_wearOfAll_4 : decode cX4_wearOfAll 4 = .ok (.iload_n 2, 1) := by decide +kernel
theorem dX4_wearOfAll_5 : decode cX4_wearOfAll 5 = .ok (.iconst 4, 1) := by decide +kernel
theorem dX4_wearOfAll_6 : decode cX4_wearOfAll 6 = .ok (.if_icmp .ge 44, 3) := by decide +kernel
theorem dX4_wearOfAll_9 : decode cX4_wearOfAll 9 = .ok (.aload_n 0, 1) := by decide +kernel
theorem dX4_wearOfAll_10 : decode cX4_wearOfAll 10 = .ok (.iload_n 2, 1) := by decide +kernel
theorem dX4_wearOfAll_11 : decode cX4_wearOfAll 11 = .ok (.invokevirtual 32, 3) := by decide +kernel
theorem dX4_wearOfAll_14 : decode cX4_wearOfAll 14 = .ok (.astore_n 3, 1) := by decide +kernel
theorem dX4_wearOfAll_15 : decode cX4_wearOfAll 15 = .ok (.iconst 0, 1) := by decide +kernel
theorem dX4_wearOfAll_16 : decode cX4_wearOfAll 16 = .ok (.istore 4, 2) := by decide +kernel
theorem dX4_wearOfAll_18 : decode cX4_wearOfAll 18 = .ok (.iload 4, 2) := by decide +kernel
theorem dX4_wearOfAll_20 : decode cX4_wearOfAll 20 = .ok (.bipush 24, 2) := by decide +kernel
theorem dX4_wearOfAll_22 : decode cX4_wearOfAll 22 = .ok (.if_icmp .ge 22, 3) := by decide +kernel
theorem dX4_wearOfAll_25 : decode cX4_wearOfAll 25 = .ok (.aload_n 3, 1) := by decide +kernel
theorem dX4_wearOfAll_26 : decode cX4_wearOfAll 26 = .ok (.ifnull 18, 3) := by decide +kernel
theorem dX4_wearOfAll_29 : decode cX4_wearOfAll 29 = .ok (.iload_n 1, 1) := by decide +kernel
theorem dX4_wearOfAll_30 : decode cX4_wearOfAll 30 = .ok (.aload_n 3, 1) := by decide +kernel
theorem dX4_wearOfAll_31 : decode cX4_wearOfAll 31 = .ok (.iload 4, 2) := by decide +kernel
theorem dX4_wearOfAll_33 : decode cX4_wearOfAll 33 = .ok (.invokevirtual 40, 3) := by decide +kernel
theorem dX4_wearOfAll_36 : decode cX4_wearOfAll 36 = .ok (.iadd, 1) := by decide +kernel
theorem dX4_wearOfAll_37 : decode cX4_wearOfAll 37 = .ok (.istore_n 1, 1) := by decide +kernel
theorem dX4_wearOfAll_38 : decode cX4_wearOfAll 38 = .ok (.iinc 4 1, 3) := by decide +kernel
theorem dX4_wearOfAll_41 : decode cX4_wearOfAll 41 = .ok (.goto (-23), 3) := by decide +kernel
theorem dX4_wearOfAll_44 : decode cX4_wearOfAll 44 = .ok (.iinc 2 1, 3) := by decide +kernel
theorem dX4_wearOfAll_47 : decode cX4_wearOfAll 47 = .ok (.goto (-43), 3) := by decide +kernel
theorem dX4_wearOfAll_50 : decode cX4_wearOfAll 50 = .ok (.iload_n 1, 1) := by decide +kernel
theorem dX4_wearOfAll_51 : decode cX4_wearOfAll 51 = .ok (.ireturn, 1) := by decide +kernel
theorem dX4_teethWornTo_0 : decode cX4_teethWornTo 0 = .ok (.iconst 0, 1) := by decide +kernel
theorem dX4_teethWornTo_1 : decode cX4_teethWornTo 1 = .ok (.istore_n 2, 1) := by decide +kernel
theorem dX4_teethWornTo_2 : decode cX4_teethWornTo 2 = .ok (.iconst 0, 1) := by decide +kernel
theorem dX4_teethWornTo_3 : decode cX4_teethWornTo 3 = .ok (.istore_n 3, 1) := by decide +kernel
theorem dX4_teethWornTo_4 : decode cX4_teethWornTo 4 = .ok (.iload_n 3, 1) := by decide +kernel
theorem dX4_teethWornTo_5 : decode cX4_teethWornTo 5 = .ok (.iconst 4, 1) := by decide +kernel
theorem dX4_teethWornTo_6 : decode cX4_teethWornTo 6 = .ok (.if_icmp .ge 51, 3) := by decide +kernel
theorem dX4_teethWornTo_9 : decode cX4_teethWornTo 9 = .ok (.aload_n 0, 1) := by decide +kernel
theorem dX4_teethWornTo_10 : decode cX4_teethWornTo 10 = .ok (.iload_n 3, 1) := by decide +kernel
theorem dX4_teethWornTo_11 : decode cX4_teethWornTo 11 = .ok (.invokevirtual 32, 3) := by decide +kernel
theorem dX4_teethWornTo_14 : decode cX4_teethWornTo 14 = .ok (.astore 4, 2) := by decide +kernel
theorem dX4_teethWornTo_16 : decode cX4_teethWornTo 16 = .ok (.iconst 0, 1) := by decide +kernel
theorem dX4_teethWornTo_17 : decode cX4_teethWornTo 17 = .ok (.istore 5, 2) := by decide +kernel
theorem dX4_teethWornTo_19 : decode cX4_teethWornTo 19 = .ok (.iload 5, 2) := by decide +kernel
theorem dX4_teethWornTo_21 : decode cX4_teethWornTo 21 = .ok (.bipush 24, 2) := by decide +kernel
theorem dX4_teethWornTo_23 : decode cX4_teethWornTo 23 = .ok (.if_icmp .ge 28, 3) := by decide +kernel
theorem dX4_teethWornTo_26 : decode cX4_teethWornTo 26 = .ok (.aload 4, 2) := by decide +kernel
theorem dX4_teethWornTo_28 : decode cX4_teethWornTo 28 = .ok (.ifnull 23, 3) := by decide +kernel
theorem dX4_teethWornTo_31 : decode cX4_teethWornTo 31 = .ok (.aload 4, 2) := by decide +kernel
theorem dX4_teethWornTo_33 : decode cX4_teethWornTo 33 = .ok (.iload 5, 2) := by decide +kernel
theorem dX4_teethWornTo_35 : decode cX4_teethWornTo 35 = .ok (.invokevirtual 40, 3) := by decide +kernel
theorem dX4_teethWornTo_38 : decode cX4_teethWornTo 38 = .ok (.iload_n 1, 1) := by decide +kernel
theorem dX4_teethWornTo_39 : decode cX4_teethWornTo 39 = .ok (.if_icmp .lt 6, 3) := by decide +kernel
theorem dX4_teethWornTo_42 : decode cX4_teethWornTo 42 = .ok (.iinc 2 1, 3) := by decide +kernel
theorem dX4_teethWornTo_45 : decode cX4_teethWornTo 45 = .ok (.iinc 5 1, 3) := by decide +kernel
theorem dX4_teethWornTo_48 : decode cX4_teethWornTo 48 = .ok (.goto (-29), 3) := by decide +kernel
theorem dX4_teethWornTo_51 : decode cX4_teethWornTo 51 = .ok (.iinc 3 1, 3) := by decide +kernel
theorem dX4_teethWornTo_54 : decode cX4_teethWornTo 54 = .ok (.goto (-50), 3) := by decide +kernel
theorem dX4_teethWornTo_57 : decode cX4_teethWornTo 57 = .ok (.iload_n 2, 1) := by decide +kernel
theorem dX4_teethWornTo_58 : decode cX4_teethWornTo 58 = .ok (.ireturn, 1) := by decide +kernel
theorem dX4_axesWhereBelieved_0 : decode cX4_axesWhereBelieved 0 = .ok (.iconst 0, 1) := by decide +kernel
theorem dX4_axesWhereBelieved_1 : decode cX4_axesWhereBelieved 1 = .ok (.istore_n 1, 1) := by decide +kernel
theorem dX4_axesWhereBelieved_2 : decode cX4_axesWhereBelieved 2 = .ok (.iconst 0, 1) := by decide +kernel
theorem dX4_axesWhereBelieved_3 : decode cX4_axesWhereBelieved 3 = .ok (.istore_n 2, 1) := by decide +kernel
theorem dX4_axesWhereBelieved_4 : decode cX4_axesWhereBelieved 4 = .ok (.iload_n 2, 1) := by decide +kernel
theorem dX4_axesWhereBelieved_5 : decode cX4_axesWhereBelieved 5 = .ok (.iconst 4, 1) := by decide +kernel
theorem dX4_axesWhereBelieved_6 : decode cX4_axesWhereBelieved 6 = .ok (.if_icmp .ge 33, 3) := by decide +kernel
theorem dX4_axesWhereBelieved_9 : decode cX4_axesWhereBelieved 9 = .ok (.aload_n 0, 1) := by decide +kernel
theorem dX4_axesWhereBelieved_10 : decode cX4_axesWhereBelieved 10 = .ok (.iload_n 2, 1) := by decide +kernel
theorem dX4_axesWhereBelieved_11 : decode cX4_axesWhereBelieved 11 = .ok (.invokevirtual 32, 3) := by decide +kernel
theorem dX4_axesWhereBelieved_14 : decode cX4_axesWhereBelieved 14 = .ok (.astore_n 3, 1) := by decide +kernel
theorem dX4_axesWhereBelieved_15 : decode cX4_axesWhereBelieved 15 = .ok (.aload_n 3, 1) := by decide +kernel
theorem dX4_axesWhereBelieved_16 : decode cX4_axesWhereBelieved 16 = .ok (.ifnull 17, 3) := by decide +kernel
theorem dX4_axesWhereBelieved_19 : decode cX4_axesWhereBelieved 19 = .ok (.aload_n 3, 1) := by decide +kernel
theorem dX4_axesWhereBelieved_20 : decode cX4_axesWhereBelieved 20 = .ok (.getfield 43, 3) := by decide +kernel
theorem dX4_axesWhereBelieved_23 : decode cX4_axesWhereBelieved 23 = .ok (.aload_n 3, 1) := by decide +kernel
theorem dX4_axesWhereBelieved_24 : decode cX4_axesWhereBelieved 24 = .ok (.getfield 46, 3) := by decide +kernel
theorem dX4_axesWhereBelieved_27 : decode cX4_axesWhereBelieved 27 = .ok (.if_icmp .ne 6, 3) := by decide +kernel
theorem dX4_axesWhereBelieved_30 : decode cX4_axesWhereBelieved 30 = .ok (.iinc 1 1, 3) := by decide +kernel
theorem dX4_axesWhereBelieved_33 : decode cX4_axesWhereBelieved 33 = .ok (.iinc 2 1, 3) := by decide +kernel
theorem dX4_axesWhereBelieved_36 : decode cX4_axesWhereBelieved 36 = .ok (.goto (-32), 3) := by decide +kernel
theorem dX4_axesWhereBelieved_39 : decode cX4_axesWhereBelieved 39 = .ok (.iload_n 1, 1) := by decide +kernel
theorem dX4_axesWhereBelieved_40 : decode cX4_axesWhereBelieved 40 = .ok (.ireturn, 1) := by decide +kernel
theorem dX4_copyFrom_0 : decode cX4_copyFrom 0 = .ok (.aload_n 0, 1) := by decide +kernel
theorem dX4_copyFrom_1 : decode cX4_copyFrom 1 = .ok (.getfield 12, 3) := by decide +kernel
theorem dX4_copyFrom_4 : decode cX4_copyFrom 4 = .ok (.aload_n 1, 1) := by decide +kernel
theorem dX4_copyFrom_5 : decode cX4_copyFrom 5 = .ok (.getfield 12, 3) := by decide +kernel
theorem dX4_copyFrom_8 : decode cX4_copyFrom 8 = .ok (.invokevirtual 49, 3) := by decide +kernel
theorem dX4_copyFrom_11 : decode cX4_copyFrom 11 = .ok (.aload_n 0, 1) := by decide +kernel
theorem dX4_copyFrom_12 : decode cX4_copyFrom 12 = .ok (.aload_n 1, 1) := by decide +kernel
theorem dX4_copyFrom_13 : decode cX4_copyFrom 13 = .ok (.getfield 24, 3) := by decide +kernel
theorem dX4_copyFrom_16 : decode cX4_copyFrom 16 = .ok (.putfield 24, 3) := by decide +kernel
theorem dX4_copyFrom_19 : decode cX4_copyFrom 19 = .ok (.aload_n 0, 1) := by decide +kernel
theorem dX4_copyFrom_20 : decode cX4_copyFrom 20 = .ok (.aload_n 1, 1) := by decide +kernel
theorem dX4_copyFrom_21 : decode cX4_copyFrom 21 = .ok (.getfield 28, 3) := by decide +kernel
theorem dX4_copyFrom_24 : decode cX4_copyFrom 24 = .ok (.putfield 28, 3) := by decide +kernel
theorem dX4_copyFrom_27 : decode cX4_copyFrom 27 = .ok (.iconst 0, 1) := by decide +kernel
theorem dX4_copyFrom_28 : decode cX4_copyFrom 28 = .ok (.istore_n 2, 1) := by decide +kernel
theorem dX4_copyFrom_29 : decode cX4_copyFrom 29 = .ok (.iload_n 2, 1) := by decide +kernel
theorem dX4_copyFrom_30 : decode cX4_copyFrom 30 = .ok (.iconst 4, 1) := by decide +kernel
theorem dX4_copyFrom_31 : decode cX4_copyFrom 31 = .ok (.if_icmp .ge 37, 3) := by decide +kernel
theorem dX4_copyFrom_34 : decode cX4_copyFrom 34 = .ok (.aload_n 0, 1) := by decide +kernel
theorem dX4_copyFrom_35 : decode cX4_copyFrom 35 = .ok (.iload_n 2, 1) := by decide +kernel
theorem dX4_copyFrom_36 : decode cX4_copyFrom 36 = .ok (.invokevirtual 32, 3) := by decide +kernel
theorem dX4_copyFrom_39 : decode cX4_copyFrom 39 = .ok (.astore_n 3, 1) := by decide +kernel
theorem dX4_copyFrom_40 : decode cX4_copyFrom 40 = .ok (.aload_n 1, 1) := by decide +kernel
theorem dX4_copyFrom_41 : decode cX4_copyFrom 41 = .ok (.iload_n 2, 1) := by decide +kernel
theorem dX4_copyFrom_42 : decode cX4_copyFrom 42 = .ok (.invokevirtual 32, 3) := by decide +kernel
theorem dX4_copyFrom_45 : decode cX4_copyFrom 45 = .ok (.astore 4, 2) := by decide +kernel
theorem dX4_copyFrom_47 : decode cX4_copyFrom 47 = .ok (.aload_n 3, 1) := by decide +kernel
theorem dX4_copyFrom_48 : decode cX4_copyFrom 48 = .ok (.ifnull 14, 3) := by decide +kernel
theorem dX4_copyFrom_51 : decode cX4_copyFrom 51 = .ok (.aload 4, 2) := by decide +kernel
theorem dX4_copyFrom_53 : decode cX4_copyFrom 53 = .ok (.ifnull 9, 3) := by decide +kernel
theorem dX4_copyFrom_56 : decode cX4_copyFrom 56 = .ok (.aload_n 3, 1) := by decide +kernel
theorem dX4_copyFrom_57 : decode cX4_copyFrom 57 = .ok (.aload 4, 2) := by decide +kernel
theorem dX4_copyFrom_59 : decode cX4_copyFrom 59 = .ok (.invokevirtual 53, 3) := by decide +kernel
theorem dX4_copyFrom_62 : decode cX4_copyFrom 62 = .ok (.iinc 2 1, 3) := by decide +kernel
theorem dX4_copyFrom_65 : decode cX4_copyFrom 65 = .ok (.goto (-36), 3) := by decide +kernel
theorem dX4_copyFrom_68 : decode cX4_copyFrom 68 = .ok (.return_, 1) := by decide +kernel
theorem dX5_init_0 : decode cX5_init 0 = .ok (.aload_n 0, 1) := by decide +kernel
theorem dX5_init_1 : decode cX5_init 1 = .ok (.invokespecial 1, 3) := by decide +kernel
theorem dX5_init_4 : decode cX5_init 4 = .ok (.aload_n 0, 1) := by decide +kernel
theorem dX5_init_5 : decode cX5_init 5 = .ok (.new 7, 3) := by decide +kernel
theorem dX5_init_8 : decode cX5_init 8 = .ok (.dup, 1) := by decide +kernel
theorem dX5_init_9 : decode cX5_init 9 = .ok (.invokespecial 9, 3) := by decide +kernel
theorem dX5_init_12 : decode cX5_init 12 = .ok (.putfield 10, 3) := by decide +kernel
theorem dX5_init_15 : decode cX5_init 15 = .ok (.aload_n 0, 1) := by decide +kernel
theorem dX5_init_16 : decode cX5_init 16 = .ok (.new 16, 3) := by decide +kernel
theorem dX5_init_19 : decode cX5_init 19 = .ok (.dup, 1) := by decide +kernel
theorem dX5_init_20 : decode cX5_init 20 = .ok (.invokespecial 18, 3) := by decide +kernel
theorem dX5_init_23 : decode cX5_init 23 = .ok (.putfield 19, 3) := by decide +kernel
theorem dX5_init_26 : decode cX5_init 26 = .ok (.aload_n 0, 1) := by decide +kernel
theorem dX5_init_27 : decode cX5_init 27 = .ok (.new 23, 3) := by decide +kernel
theorem dX5_init_30 : decode cX5_init 30 = .ok (.dup, 1) := by decide +kernel
theorem dX5_init_31 : decode cX5_init 31 = .ok (.invokespecial 25, 3) := by decide +kernel
theorem dX5_init_34 : decode cX5_init 34 = .ok (.putfield 26, 3) := by decide +kernel
theorem dX5_init_37 : decode cX5_init 37 = .ok (.aload_n 0, 1) := by decide +kernel
theorem dX5_init_38 : decode cX5_init 38 = .ok (.new 30, 3) := by decide +kernel
theorem dX5_init_41 : decode cX5_init 41 = .ok (.dup, 1) := by decide +kernel
theorem dX5_init_42 : decode cX5_init 42 = .ok (.invokespecial 32, 3) := by decide +kernel
theorem dX5_init_45 : decode cX5_init 45 = .ok (.putfield 33, 3) := by decide +kernel
theorem dX5_init_48 : decode cX5_init 48 = .ok (.aload_n 0, 1) := by decide +kernel
theorem dX5_init_49 : decode cX5_init 49 = .ok (.bipush 60, 2) := by decide +kernel
theorem dX5_init_51 : decode cX5_init 51 = .ok (.newarray .int, 2) := by decide +kernel
theorem dX5_init_53 : decode cX5_init 53 = .ok (.putfield 37, 3) := by decide +kernel
theorem dX5_init_56 : decode cX5_init 56 = .ok (.aload_n 0, 1) := by decide +kernel
theorem dX5_init_57 : decode cX5_init 57 = .ok (.iconst 0, 1) := by decide +kernel
theorem dX5_init_58 : decode cX5_init 58 = .ok (.putfield 41, 3) := by decide +kernel
theorem dX5_init_61 : decode cX5_init 61 = .ok (.return_, 1) := by decide +kernel
theorem dX5_earn_0 : decode cX5_earn 0 = .ok (.iload_n 1, 1) := by decide +kernel
theorem dX5_earn_1 : decode cX5_earn 1 = .ok (.iconst 1, 1) := by decide +kernel
theorem dX5_earn_2 : decode cX5_earn 2 = .ok (.if_icmp .lt 10, 3) := by decide +kernel
theorem dX5_earn_5 : decode cX5_earn 5 = .ok (.iload_n 1, 1) := by decide +kernel
theorem dX5_earn_6 : decode cX5_earn 6 = .ok (.sipush 10000, 3) := by decide +kernel
theorem dX5_earn_9 : decode cX5_earn 9 = .ok (.if_icmp .le 13, 3) := by decide +kernel
theorem dX5_earn_12 : decode cX5_earn 12 = .ok (.new 45, 3) := by decide +kernel
theorem dX5_earn_15 : decode cX5_earn 15 = .ok (.dup, 1) := by decide +kernel
theorem dX5_earn_16 : decode cX5_earn 16 = .ok (.ldc 47, 2) := by decide +kernel
theorem dX5_earn_18 : decode cX5_earn 18 = .ok (.invokespecial 49, 3) := by decide +kernel
theorem dX5_earn_21 : decode cX5_earn 21 = .ok (.athrow, 1) := by decide +kernel
theorem dX5_earn_22 : decode cX5_earn 22 = .ok (.aload_n 0, 1) := by decide +kernel
theorem dX5_earn_23 : decode cX5_earn 23 = .ok (.getfield 10, 3) := by decide +kernel
theorem dX5_earn_26 : decode cX5_earn 26 = .ok (.getfield 52, 3) := by decide +kernel
theorem dX5_earn_29 : decode cX5_earn 29 = .ok (.iload_n 1, 1) := by decide +kernel
theorem dX5_earn_30 : decode cX5_earn 30 = .ok (.iadd, 1) := by decide +kernel
theorem dX5_earn_31 : decode cX5_earn 31 = .ok (.ldc 55, 2) := by decide +kernel
theorem dX5_earn_33 : decode cX5_earn 33 = .ok (.if_icmp .le 13, 3) := by decide +kernel
theorem dX5_earn_36 : decode cX5_earn 36 = .ok (.new 56, 3) := by decide +kernel
theorem dX5_earn_39 : decode cX5_earn 39 = .ok (.dup, 1) := by decide +kernel
theorem dX5_earn_40 : decode cX5_earn 40 = .ok (.ldc 58, 2) := by decide +kernel
theorem dX5_earn_42 : decode cX5_earn 42 = .ok (.invokespecial 60, 3) := by decide +kernel
theorem dX5_earn_45 : decode cX5_earn 45 = .ok (.athrow, 1) := by decide +kernel
theorem dX5_earn_46 : decode cX5_earn 46 = .ok (.aload_n 0, 1) := by decide +kernel
theorem dX5_earn_47 : decode cX5_earn 47 = .ok (.getfield 19, 3) := by decide +kernel
theorem dX5_earn_50 : decode cX5_earn 50 = .ok (.aload_n 0, 1) := by decide +kernel
theorem dX5_earn_51 : decode cX5_earn 51 = .ok (.getfield 10, 3) := by decide +kernel
theorem dX5_earn_54 : decode cX5_earn 54 = .ok (.invokevirtual 61, 3) := by decide +kernel
theorem dX5_earn_57 : decode cX5_earn 57 = .ok (.aload_n 0, 1) := by decide +kernel
theorem dX5_earn_58 : decode cX5_earn 58 = .ok (.getfield 10, 3) := by decide +kernel
theorem dX5_earn_61 : decode cX5_earn 61 = .ok (.dup, 1) := by decide +kernel
theorem dX5_earn_62 : decode cX5_earn 62 = .ok (.getfield 52, 3) := by decide +kernel
theorem dX5_earn_65 : decode cX5_earn 65 = .ok (.iload_n 1, 1) := by decide +kernel
theorem dX5_earn_66 : decode cX5_earn 66 = .ok (.iadd, 1) := by decide +kernel
theorem dX5_earn_67 : decode cX5_earn 67 = .ok (.putfield 52, 3) := by decide +kernel
theorem dX5_earn_70 : decode cX5_earn 70 = .ok (.aload_n 0, 1) := by decide +kernel
theorem dX5_earn_71 : decode cX5_earn 71 = .ok (.getfield 10, 3) := by decide +kernel
theorem dX5_earn_74 : decode cX5_earn 74 = .ok (.getfield 52, 3) := by decide +kernel
theorem dX5_earn_77 : decode cX5_earn 77 = .ok (.ireturn, 1) := by decide +kernel
theorem dX5_load_0 : decode cX5_load 0 = .ok (.aload_n 0, 1) := by decide +kernel
theorem dX5_load_1 : decode cX5_load 1 = .ok (.iload_n 1, 1) := by decide +kernel
theorem dX5_load_2 : decode cX5_load 2 = .ok (.invokevirtual 65, 3) := by decide +kernel
theorem dX5_load_5 : decode cX5_load 5 = .ok (.astore_n 3, 1) := by decide +kernel
theorem dX5_load_6 : decode cX5_load 6 = .ok (.iload_n 2, 1) := by decide +kernel
theorem dX5_load_7 : decode cX5_load 7 = .ok (.ifCond .lt 8, 3) := by decide +kernel
theorem dX5_load_10 : decode cX5_load 10 = .ok (.iload_n 2, 1) := by decide +kernel
theorem dX5_load_11 : decode cX5_load 11 = .ok (.iconst 5, 1) := by decide +kernel
theorem dX5_load_12 : decode cX5_load 12 = .ok (.if_icmp .le 13, 3) := by decide +kernel
theorem dX5_load_15 : decode cX5_load 15 = .ok (.new 45, 3) := by decide +kernel
theorem dX5_load_18 : decode cX5_load 18 = .ok (.dup, 1) := by decide +kernel
theorem dX5_load_19 : decode cX5_load 19 = .ok (.ldc 69, 2) := by decide +kernel
theorem dX5_load_21 : decode cX5_load 21 = .ok (.invokespecial 49, 3) := by decide +kernel
theorem dX5_load_24 : decode cX5_load 24 = .ok (.athrow, 1) := by decide +kernel
theorem dX5_load_25 : decode cX5_load 25 = .ok (.aload_n 0, 1) := by decide +kernel
theorem dX5_load_26 : decode cX5_load 26 = .ok (.getfield 19, 3) := by decide +kernel
theorem dX5_load_29 : decode cX5_load 29 = .ok (.aload_n 0, 1) := by decide +kernel
theorem dX5_load_30 : decode cX5_load 30 = .ok (.getfield 10, 3) := by decide +kernel
theorem dX5_load_33 : decode cX5_load 33 = .ok (.invokevirtual 61, 3) := by decide +kernel
theorem dX5_load_36 : decode cX5_load 36 = .ok (.aload_n 3, 1) := by decide +kernel
theorem dX5_load_37 : decode cX5_load 37 = .ok (.getfield 71, 3) := by decide +kernel
theorem dX5_load_40 : decode cX5_load 40 = .ok (.istore 4, 2) := by decide +kernel
theorem dX5_load_42 : decode cX5_load 42 = .ok (.aload_n 3, 1) := by decide +kernel
theorem dX5_load_43 : decode cX5_load 43 = .ok (.iload_n 2, 1) := by decide +kernel
theorem dX5_load_44 : decode cX5_load 44 = .ok (.putfield 71, 3) := by decide +kernel
theorem dX5_load_47 : decode cX5_load 47 = .ok (.iload 4, 2) := by decide +kernel
theorem dX5_load_49 : decode cX5_load 49 = .ok (.ireturn, 1) := by decide +kernel
theorem dX5_set_0 : decode cX5_set 0 = .ok (.iload_n 1, 1) := by decide +kernel
theorem dX5_set_1 : decode cX5_set 1 = .ok (.invokestatic 74, 3) := by decide +kernel
theorem dX5_set_4 : decode cX5_set 4 = .ok (.iload_n 1, 1) := by decide +kernel
theorem dX5_set_5 : decode cX5_set 5 = .ok (.iload_n 2, 1) := by decide +kernel
theorem dX5_set_6 : decode cX5_set 6 = .ok (.invokestatic 78, 3) := by decide +kernel
theorem dX5_set_9 : decode cX5_set 9 = .ok (.ifCond .ne 13, 3) := by decide +kernel
theorem dX5_set_12 : decode cX5_set 12 = .ok (.new 45, 3) := by decide +kernel
theorem dX5_set_15 : decode cX5_set 15 = .ok (.dup, 1) := by decide +kernel
theorem dX5_set_16 : decode cX5_set 16 = .ok (.ldc 82, 2) := by decide +kernel
theorem dX5_set_18 : decode cX5_set 18 = .ok (.invokespecial 49, 3) := by decide +kernel
theorem dX5_set_21 : decode cX5_set 21 = .ok (.athrow, 1) := by decide +kernel
theorem dX5_set_22 : decode cX5_set 22 = .ok (.aload_n 0, 1) := by decide +kernel
theorem dX5_set_23 : decode cX5_set 23 = .ok (.getfield 19, 3) := by decide +kernel
theorem dX5_set_26 : decode cX5_set 26 = .ok (.aload_n 0, 1) := by decide +kernel
theorem dX5_set_27 : decode cX5_set 27 = .ok (.getfield 10, 3) := by decide +kernel
theorem dX5_set_30 : decode cX5_set 30 = .ok (.invokevirtual 61, 3) := by decide +kernel
theorem dX5_set_33 : decode cX5_set 33 = .ok (.aload_n 0, 1) := by decide +kernel
theorem dX5_set_34 : decode cX5_set 34 = .ok (.getfield 10, 3) := by decide +kernel
theorem dX5_set_37 : decode cX5_set 37 = .ok (.getfield 84, 3) := by decide +kernel
theorem dX5_set_40 : decode cX5_set 40 = .ok (.iload_n 1, 1) := by decide +kernel
theorem dX5_set_41 : decode cX5_set 41 = .ok (.invokevirtual 88, 3) := by decide +kernel
theorem dX5_set_44 : decode cX5_set 44 = .ok (.istore_n 3, 1) := by decide +kernel
theorem dX5_set_45 : decode cX5_set 45 = .ok (.aload_n 0, 1) := by decide +kernel
theorem dX5_set_46 : decode cX5_set 46 = .ok (.getfield 10, 3) := by decide +kernel
theorem dX5_set_49 : decode cX5_set 49 = .ok (.getfield 84, 3) := by decide +kernel
theorem dX5_set_52 : decode cX5_set 52 = .ok (.iload_n 1, 1) := by decide +kernel
theorem dX5_set_53 : decode cX5_set 53 = .ok (.iload_n 2, 1) := by decide +kernel
theorem dX5_set_54 : decode cX5_set 54 = .ok (.invokevirtual 94, 3) := by decide +kernel
theorem dX5_set_57 : decode cX5_set 57 = .ok (.iload_n 3, 1) := by decide +kernel
theorem dX5_set_58 : decode cX5_set 58 = .ok (.ireturn, 1) := by decide +kernel
theorem dX5_step_0 : decode cX5_step 0 = .ok (.aload_n 0, 1) := by decide +kernel
theorem dX5_step_1 : decode cX5_step 1 = .ok (.iload_n 1, 1) := by decide +kernel
theorem dX5_step_2 : decode cX5_step 2 = .ok (.invokevirtual 65, 3) := by decide +kernel
theorem dX5_step_5 : decode cX5_step 5 = .ok (.astore_n 3, 1) := by decide +kernel
theorem dX5_step_6 : decode cX5_step 6 = .ok (.iload_n 2, 1) := by decide +kernel
theorem dX5_step_7 : decode cX5_step 7 = .ok (.bipush (-24), 2) := by decide +kernel
theorem dX5_step_9 : decode cX5_step 9 = .ok (.if_icmp .lt 13, 3) := by decide +kernel
theorem dX5_step_12 : decode cX5_step 12 = .ok (.iload_n 2, 1) := by decide +kernel
theorem dX5_step_13 : decode cX5_step 13 = .ok (.bipush 24, 2) := by decide +kernel
theorem dX5_step_15 : decode cX5_step 15 = .ok (.if_icmp .gt 7, 3) := by decide +kernel
theorem dX5_step_18 : decode cX5_step 18 = .ok (.iload_n 2, 1) := by decide +kernel
theorem dX5_step_19 : decode cX5_step 19 = .ok (.ifCond .ne 13, 3) := by decide +kernel
theorem dX5_step_22 : decode cX5_step 22 = .ok (.new 45, 3) := by decide +kernel
theorem dX5_step_25 : decode cX5_step 25 = .ok (.dup, 1) := by decide +kernel
theorem dX5_step_26 : decode cX5_step 26 = .ok (.ldc 98, 2) := by decide +kernel
theorem dX5_step_28 : decode cX5_step 28 = .ok (.invokespecial 49, 3) := by decide +kernel
theorem dX5_step_31 : decode cX5_step 31 = .ok (.athrow, 1) := by decide +kernel
theorem dX5_step_32 : decode cX5_step 32 = .ok (.iload_n 2, 1) := by decide +kernel
theorem dX5_step_33 : decode cX5_step 33 = .ok (.ifCond .le 7, 3) := by decide +kernel
theorem dX5_step_36 : decode cX5_step 36 = .ok (.iconst 1, 1) := by decide +kernel
theorem dX5_step_37 : decode cX5_step 37 = .ok (.goto 4, 3) := by decide +kernel
theorem dX5_step_40 : decode cX5_step 40 = .ok (.iconst 0, 1) := by decide +kernel
theorem dX5_step_41 : decode cX5_step 41 = .ok (.invokestatic 100, 3) := by decide +kernel
theorem dX5_step_44 : decode cX5_step 44 = .ok (.istore 4, 2) := by decide +kernel
theorem dX5_step_46 : decode cX5_step 46 = .ok (.aload_n 0, 1) := by decide +kernel
theorem dX5_step_47 : decode cX5_step 47 = .ok (.aload_n 3, 1) := by decide +kernel
theorem dX5_step_48 : decode cX5_step 48 = .ok (.iload 4, 2) := by decide +kernel
theorem dX5_step_50 : decode cX5_step 50 = .ok (.invokevirtual 104, 3) := by decide +kernel
theorem dX5_step_53 : decode cX5_step 53 = .ok (.ifCond .ne 13, 3) := by decide +kernel
theorem dX5_step_56 : decode cX5_step 56 = .ok (.new 56, 3) := by decide +kernel
theorem dX5_step_59 : decode cX5_step 59 = .ok (.dup, 1) := by decide +kernel
theorem dX5_step_60 : decode cX5_step 60 = .ok (.ldc 108, 2) := by decide +kernel
theorem dX5_step_62 : decode cX5_step 62 = .ok (.invokespecial 60, 3) := by decide +kernel
theorem dX5_step_65 : decode cX5_step 65 = .ok (.athrow, 1) := by decide +kernel
theorem dX5_step_66 : decode cX5_step 66 = .ok (.aload_n 0, 1) := by decide +kernel
theorem dX5_step_67 : decode cX5_step 67 = .ok (.getfield 19, 3) := by decide +kernel
theorem dX5_step_70 : decode cX5_step 70 = .ok (.aload_n 0, 1) := by decide +kernel
theorem dX5_step_71 : decode cX5_step 71 = .ok (.getfield 10, 3) := by decide +kernel
theorem dX5_step_74 : decode cX5_step 74 = .ok (.invokevirtual 61, 3) := by decide +kernel
theorem dX5_step_77 : decode cX5_step 77 = .ok (.aload_n 0, 1) := by decide +kernel
theorem dX5_step_78 : decode cX5_step 78 = .ok (.aload_n 3, 1) := by decide +kernel
theorem dX5_step_79 : decode cX5_step 79 = .ok (.iload 4, 2) := by decide +kernel
theorem dX5_step_81 : decode cX5_step 81 = .ok (.iload_n 2, 1) := by decide +kernel
theorem dX5_step_82 : decode cX5_step 82 = .ok (.ifCond .le 7, 3) := by decide +kernel
theorem dX5_step_85 : decode cX5_step 85 = .ok (.iload_n 2, 1) := by decide +kernel
theorem dX5_step_86 : decode cX5_step 86 = .ok (.goto 5, 3) := by decide +kernel
theorem dX5_step_89 : decode cX5_step 89 = .ok (.iload_n 2, 1) := by decide +kernel
theorem dX5_step_90 : decode cX5_step 90 = .ok (.ineg, 1) := by decide +kernel
theorem dX5_step_91 : decode cX5_step 91 = .ok (.invokevirtual 110, 3) := by decide +kernel
theorem dX5_step_94 : decode cX5_step 94 = .ok (.ireturn, 1) := by decide +kernel
theorem dX5_go_0 : decode cX5_go 0 = .ok (.aload_n 0, 1) := by decide +kernel
theorem dX5_go_1 : decode cX5_go 1 = .ok (.iload_n 1, 1) := by decide +kernel
theorem dX5_go_2 : decode cX5_go 2 = .ok (.invokevirtual 65, 3) := by decide +kernel
theorem dX5_go_5 : decode cX5_go 5 = .ok (.astore_n 3, 1) := by decide +kernel
theorem dX5_go_6 : decode cX5_go 6 = .ok (.iload_n 2, 1) := by decide +kernel
theorem dX5_go_7 : decode cX5_go 7 = .ok (.invokestatic 114, 3) := by decide +kernel
theorem dX5_go_10 : decode cX5_go 10 = .ok (.aload_n 0, 1) := by decide +kernel
theorem dX5_go_11 : decode cX5_go 11 = .ok (.aload_n 3, 1) := by decide +kernel
theorem dX5_go_12 : decode cX5_go 12 = .ok (.iload_n 2, 1) := by decide +kernel
theorem dX5_go_13 : decode cX5_go 13 = .ok (.invokevirtual 117, 3) := by decide +kernel
theorem dX5_go_16 : decode cX5_go 16 = .ok (.ifCond .ne 13, 3) := by decide +kernel
theorem dX5_go_19 : decode cX5_go 19 = .ok (.new 56, 3) := by decide +kernel
theorem dX5_go_22 : decode cX5_go 22 = .ok (.dup, 1) := by decide +kernel
theorem dX5_go_23 : decode cX5_go 23 = .ok (.ldc 108, 2) := by decide +kernel
theorem dX5_go_25 : decode cX5_go 25 = .ok (.invokespecial 60, 3) := by decide +kernel
theorem dX5_go_28 : decode cX5_go 28 = .ok (.athrow, 1) := by decide +kernel
theorem dX5_go_29 : decode cX5_go 29 = .ok (.aload_n 0, 1) := by decide +kernel
theorem dX5_go_30 : decode cX5_go 30 = .ok (.getfield 19, 3) := by decide +kernel
theorem dX5_go_33 : decode cX5_go 33 = .ok (.aload_n 0, 1) := by decide +kernel
theorem dX5_go_34 : decode cX5_go 34 = .ok (.getfield 10, 3) := by decide +kernel
theorem dX5_go_37 : decode cX5_go 37 = .ok (.invokevirtual 61, 3) := by decide +kernel
theorem dX5_go_40 : decode cX5_go 40 = .ok (.aload_n 0, 1) := by decide +kernel
theorem dX5_go_41 : decode cX5_go 41 = .ok (.aload_n 3, 1) := by decide +kernel
theorem dX5_go_42 : decode cX5_go 42 = .ok (.iload_n 2, 1) := by decide +kernel
theorem dX5_go_43 : decode cX5_go 43 = .ok (.invokevirtual 120, 3) := by decide +kernel
theorem dX5_go_46 : decode cX5_go 46 = .ok (.ireturn, 1) := by decide +kernel
theorem dX5_home_0 : decode cX5_home 0 = .ok (.aload_n 0, 1) := by decide +kernel
theorem dX5_home_1 : decode cX5_home 1 = .ok (.iload_n 1, 1) := by decide +kernel
theorem dX5_home_2 : decode cX5_home 2 = .ok (.invokevirtual 65, 3) := by decide +kernel
theorem dX5_home_5 : decode cX5_home 5 = .ok (.astore_n 2, 1) := by decide +kernel
theorem dX5_home_6 : decode cX5_home 6 = .ok (.aload_n 0, 1) := by decide +kernel
theorem dX5_home_7 : decode cX5_home 7 = .ok (.getfield 19, 3) := by decide +kernel
theorem dX5_home_10 : decode cX5_home 10 = .ok (.aload_n 0, 1) := by decide +kernel
theorem dX5_home_11 : decode cX5_home 11 = .ok (.getfield 10, 3) := by decide +kernel
theorem dX5_home_14 : decode cX5_home 14 = .ok (.invokevirtual 61, 3) := by decide +kernel
theorem dX5_home_17 : decode cX5_home 17 = .ok (.aload_n 2, 1) := by decide +kernel
theorem dX5_home_18 : decode cX5_home 18 = .ok (.getfield 124, 3) := by decide +kernel
theorem dX5_home_21 : decode cX5_home 21 = .ok (.istore_n 3, 1) := by decide +kernel
theorem dX5_home_22 : decode cX5_home 22 = .ok (.aload_n 0, 1) := by decide +kernel
theorem dX5_home_23 : decode cX5_home 23 = .ok (.aload_n 2, 1) := by decide +kernel
theorem dX5_home_24 : decode cX5_home 24 = .ok (.invokevirtual 127, 3) := by decide +kernel
theorem dX5_home_27 : decode cX5_home 27 = .ok (.istore 4, 2) := by decide +kernel
theorem dX5_home_29 : decode cX5_home 29 = .ok (.iload 4, 2) := by decide +kernel
theorem dX5_home_31 : decode cX5_home 31 = .ok (.ifCond .eq 12, 3) := by decide +kernel
theorem dX5_home_34 : decode cX5_home 34 = .ok (.aload_n 2, 1) := by decide +kernel
theorem dX5_home_35 : decode cX5_home 35 = .ok (.getfield 124, 3) := by decide +kernel
theorem dX5_home_38 : decode cX5_home 38 = .ok (.iload_n 3, 1) := by decide +kernel
theorem dX5_home_39 : decode cX5_home 39 = .ok (.isub, 1) := by decide +kernel
theorem dX5_home_40 : decode cX5_home 40 = .ok (.goto 4, 3) := by decide +kernel
theorem dX5_home_43 : decode cX5_home 43 = .ok (.iconst (-1), 1) := by decide +kernel
theorem dX5_home_44 : decode cX5_home 44 = .ok (.ireturn, 1) := by decide +kernel
theorem dX5_grease_0 : decode cX5_grease 0 = .ok (.aload_n 0, 1) := by decide +kernel
theorem dX5_grease_1 : decode cX5_grease 1 = .ok (.iload_n 1, 1) := by decide +kernel
theorem dX5_grease_2 : decode cX5_grease 2 = .ok (.invokevirtual 65, 3) := by decide +kernel
theorem dX5_grease_5 : decode cX5_grease 5 = .ok (.astore_n 2, 1) := by decide +kernel
theorem dX5_grease_6 : decode cX5_grease 6 = .ok (.aload_n 0, 1) := by decide +kernel
theorem dX5_grease_7 : decode cX5_grease 7 = .ok (.invokevirtual 131, 3) := by decide +kernel
theorem dX5_grease_10 : decode cX5_grease 10 = .ok (.ifCond .ne 13, 3) := by decide +kernel
theorem dX5_grease_13 : decode cX5_grease 13 = .ok (.new 56, 3) := by decide +kernel
theorem dX5_grease_16 : decode cX5_grease 16 = .ok (.dup, 1) := by decide +kernel
theorem dX5_grease_17 : decode cX5_grease 17 = .ok (.ldc 135, 2) := by decide +kernel
theorem dX5_grease_19 : decode cX5_grease 19 = .ok (.invokespecial 60, 3) := by decide +kernel
theorem dX5_grease_22 : decode cX5_grease 22 = .ok (.athrow, 1) := by decide +kernel
theorem dX5_grease_23 : decode cX5_grease 23 = .ok (.aload_n 0, 1) := by decide +kernel
theorem dX5_grease_24 : decode cX5_grease 24 = .ok (.getfield 19, 3) := by decide +kernel
end
section
theorem dX5_grease_27 : decode cX5_grease 27 = .ok (.aload_n 0, 1) := by decide +kernel
theorem dX5_grease_28 : decode cX5_grease 28 = .ok (.getfield 10, 3) := by decide +kernel
theorem dX5_grease_31 : decode cX5_grease 31 = .ok (.invokevirtual 61, 3) := by decide +kernel
theorem dX5_grease_34 : decode cX5_grease 34 = .ok (.aload_n 0, 1) := by decide +kernel
theorem dX5_grease_35 : decode cX5_grease 35 = .ok (.aload_n 2, 1) := by decide +kernel
theorem dX5_grease_36 : decode cX5_grease 36 = .ok (.invokevirtual 137, 3) := by decide +kernel
theorem dX5_grease_39 : decode cX5_grease 39 = .ok (.aload_n 0, 1) := by decide +kernel
theorem dX5_grease_40 : decode cX5_grease 40 = .ok (.getfield 10, 3) := by decide +kernel
theorem dX5_grease_43 : decode cX5_grease 43 = .ok (.getfield 52, 3) := by decide +kernel
theorem dX5_grease_46 : decode cX5_grease 46 = .ok (.ireturn, 1) := by decide +kernel
theorem dX5_mend_0 : decode cX5_mend 0 = .ok (.aload_n 0, 1) := by decide +kernel
theorem dX5_mend_1 : decode cX5_mend 1 = .ok (.iload_n 1, 1) := by decide +kernel
theorem dX5_mend_2 : decode cX5_mend 2 = .ok (.invokevirtual 65, 3) := by decide +kernel
theorem dX5_mend_5 : decode cX5_mend 5 = .ok (.astore_n 3, 1) := by decide +kernel
theorem dX5_mend_6 : decode cX5_mend 6 = .ok (.iload_n 2, 1) := by decide +kernel
theorem dX5_mend_7 : decode cX5_mend 7 = .ok (.invokestatic 141, 3) := by decide +kernel
theorem dX5_mend_10 : decode cX5_mend 10 = .ok (.aload_n 3, 1) := by decide +kernel
theorem dX5_mend_11 : decode cX5_mend 11 = .ok (.iload_n 2, 1) := by decide +kernel
theorem dX5_mend_12 : decode cX5_mend 12 = .ok (.invokevirtual 144, 3) := by decide +kernel
theorem dX5_mend_15 : decode cX5_mend 15 = .ok (.aload_n 0, 1) := by decide +kernel
theorem dX5_mend_16 : decode cX5_mend 16 = .ok (.getfield 10, 3) := by decide +kernel
theorem dX5_mend_19 : decode cX5_mend 19 = .ok (.getfield 84, 3) := by decide +kernel
theorem dX5_mend_22 : decode cX5_mend 22 = .ok (.getfield 147, 3) := by decide +kernel
theorem dX5_mend_25 : decode cX5_mend 25 = .ok (.imul, 1) := by decide +kernel
theorem dX5_mend_26 : decode cX5_mend 26 = .ok (.istore 4, 2) := by decide +kernel
theorem dX5_mend_28 : decode cX5_mend 28 = .ok (.aload_n 0, 1) := by decide +kernel
theorem dX5_mend_29 : decode cX5_mend 29 = .ok (.getfield 10, 3) := by decide +kernel
theorem dX5_mend_32 : decode cX5_mend 32 = .ok (.getfield 52, 3) := by decide +kernel
theorem dX5_mend_35 : decode cX5_mend 35 = .ok (.iload 4, 2) := by decide +kernel
theorem dX5_mend_37 : decode cX5_mend 37 = .ok (.if_icmp .ge 13, 3) := by decide +kernel
theorem dX5_mend_40 : decode cX5_mend 40 = .ok (.new 56, 3) := by decide +kernel
theorem dX5_mend_43 : decode cX5_mend 43 = .ok (.dup, 1) := by decide +kernel
theorem dX5_mend_44 : decode cX5_mend 44 = .ok (.ldc 150, 2) := by decide +kernel
theorem dX5_mend_46 : decode cX5_mend 46 = .ok (.invokespecial 60, 3) := by decide +kernel
theorem dX5_mend_49 : decode cX5_mend 49 = .ok (.athrow, 1) := by decide +kernel
theorem dX5_mend_50 : decode cX5_mend 50 = .ok (.aload_n 0, 1) := by decide +kernel
theorem dX5_mend_51 : decode cX5_mend 51 = .ok (.getfield 19, 3) := by decide +kernel
theorem dX5_mend_54 : decode cX5_mend 54 = .ok (.aload_n 0, 1) := by decide +kernel
theorem dX5_mend_55 : decode cX5_mend 55 = .ok (.getfield 10, 3) := by decide +kernel
theorem dX5_mend_58 : decode cX5_mend 58 = .ok (.invokevirtual 61, 3) := by decide +kernel
theorem dX5_mend_61 : decode cX5_mend 61 = .ok (.aload_n 0, 1) := by decide +kernel
theorem dX5_mend_62 : decode cX5_mend 62 = .ok (.getfield 10, 3) := by decide +kernel
theorem dX5_mend_65 : decode cX5_mend 65 = .ok (.iload 4, 2) := by decide +kernel
theorem dX5_mend_67 : decode cX5_mend 67 = .ok (.invokevirtual 152, 3) := by decide +kernel
theorem dX5_mend_70 : decode cX5_mend 70 = .ok (.aload_n 3, 1) := by decide +kernel
theorem dX5_mend_71 : decode cX5_mend 71 = .ok (.iload_n 2, 1) := by decide +kernel
theorem dX5_mend_72 : decode cX5_mend 72 = .ok (.iconst 0, 1) := by decide +kernel
theorem dX5_mend_73 : decode cX5_mend 73 = .ok (.invokevirtual 155, 3) := by decide +kernel
theorem dX5_mend_76 : decode cX5_mend 76 = .ok (.iload 4, 2) := by decide +kernel
theorem dX5_mend_78 : decode cX5_mend 78 = .ok (.ireturn, 1) := by decide +kernel
theorem dX5_append_0 : decode cX5_append 0 = .ok (.iload_n 1, 1) := by decide +kernel
theorem dX5_append_1 : decode cX5_append 1 = .ok (.bipush 33, 2) := by decide +kernel
theorem dX5_append_3 : decode cX5_append 3 = .ok (.if_icmp .lt 9, 3) := by decide +kernel
theorem dX5_append_6 : decode cX5_append 6 = .ok (.iload_n 1, 1) := by decide +kernel
theorem dX5_append_7 : decode cX5_append 7 = .ok (.bipush 126, 2) := by decide +kernel
theorem dX5_append_9 : decode cX5_append 9 = .ok (.if_icmp .le 13, 3) := by decide +kernel
theorem dX5_append_12 : decode cX5_append 12 = .ok (.new 45, 3) := by decide +kernel
theorem dX5_append_15 : decode cX5_append 15 = .ok (.dup, 1) := by decide +kernel
theorem dX5_append_16 : decode cX5_append 16 = .ok (.ldc 158, 2) := by decide +kernel
theorem dX5_append_18 : decode cX5_append 18 = .ok (.invokespecial 49, 3) := by decide +kernel
theorem dX5_append_21 : decode cX5_append 21 = .ok (.athrow, 1) := by decide +kernel
theorem dX5_append_22 : decode cX5_append 22 = .ok (.aload_n 0, 1) := by decide +kernel
theorem dX5_append_23 : decode cX5_append 23 = .ok (.getfield 41, 3) := by decide +kernel
theorem dX5_append_26 : decode cX5_append 26 = .ok (.ifCond .lt 15, 3) := by decide +kernel
theorem dX5_append_29 : decode cX5_append 29 = .ok (.aload_n 0, 1) := by decide +kernel
theorem dX5_append_30 : decode cX5_append 30 = .ok (.getfield 41, 3) := by decide +kernel
theorem dX5_append_33 : decode cX5_append 33 = .ok (.aload_n 0, 1) := by decide +kernel
theorem dX5_append_34 : decode cX5_append 34 = .ok (.getfield 37, 3) := by decide +kernel
theorem dX5_append_37 : decode cX5_append 37 = .ok (.arraylength, 1) := by decide +kernel
theorem dX5_append_38 : decode cX5_append 38 = .ok (.if_icmp .lt 13, 3) := by decide +kernel
theorem dX5_append_41 : decode cX5_append 41 = .ok (.new 56, 3) := by decide +kernel
theorem dX5_append_44 : decode cX5_append 44 = .ok (.dup, 1) := by decide +kernel
theorem dX5_append_45 : decode cX5_append 45 = .ok (.ldc 160, 2) := by decide +kernel
theorem dX5_append_47 : decode cX5_append 47 = .ok (.invokespecial 60, 3) := by decide +kernel
theorem dX5_append_50 : decode cX5_append 50 = .ok (.athrow, 1) := by decide +kernel
theorem dX5_append_51 : decode cX5_append 51 = .ok (.aload_n 0, 1) := by decide +kernel
theorem dX5_append_52 : decode cX5_append 52 = .ok (.getfield 37, 3) := by decide +kernel
theorem dX5_append_55 : decode cX5_append 55 = .ok (.aload_n 0, 1) := by decide +kernel
theorem dX5_append_56 : decode cX5_append 56 = .ok (.getfield 41, 3) := by decide +kernel
theorem dX5_append_59 : decode cX5_append 59 = .ok (.iload_n 1, 1) := by decide +kernel
theorem dX5_append_60 : decode cX5_append 60 = .ok (.iastore, 1) := by decide +kernel
theorem dX5_append_61 : decode cX5_append 61 = .ok (.aload_n 0, 1) := by decide +kernel
theorem dX5_append_62 : decode cX5_append 62 = .ok (.dup, 1) := by decide +kernel
theorem dX5_append_63 : decode cX5_append 63 = .ok (.getfield 41, 3) := by decide +kernel
theorem dX5_append_66 : decode cX5_append 66 = .ok (.iconst 1, 1) := by decide +kernel
theorem dX5_append_67 : decode cX5_append 67 = .ok (.iadd, 1) := by decide +kernel
theorem dX5_append_68 : decode cX5_append 68 = .ok (.putfield 41, 3) := by decide +kernel
theorem dX5_append_71 : decode cX5_append 71 = .ok (.aload_n 0, 1) := by decide +kernel
theorem dX5_append_72 : decode cX5_append 72 = .ok (.getfield 41, 3) := by decide +kernel
theorem dX5_append_75 : decode cX5_append 75 = .ok (.ireturn, 1) := by decide +kernel
theorem dX5_clearBuffer_0 : decode cX5_clearBuffer 0 = .ok (.aload_n 0, 1) := by decide +kernel
theorem dX5_clearBuffer_1 : decode cX5_clearBuffer 1 = .ok (.getfield 41, 3) := by decide +kernel
theorem dX5_clearBuffer_4 : decode cX5_clearBuffer 4 = .ok (.istore_n 1, 1) := by decide +kernel
theorem dX5_clearBuffer_5 : decode cX5_clearBuffer 5 = .ok (.aload_n 0, 1) := by decide +kernel
theorem dX5_clearBuffer_6 : decode cX5_clearBuffer 6 = .ok (.iconst 0, 1) := by decide +kernel
theorem dX5_clearBuffer_7 : decode cX5_clearBuffer 7 = .ok (.putfield 41, 3) := by decide +kernel
theorem dX5_clearBuffer_10 : decode cX5_clearBuffer 10 = .ok (.iload_n 1, 1) := by decide +kernel
theorem dX5_clearBuffer_11 : decode cX5_clearBuffer 11 = .ok (.ireturn, 1) := by decide +kernel
theorem dX5_firstError_0 : decode cX5_firstError 0 = .ok (.aload_n 0, 1) := by decide +kernel
theorem dX5_firstError_1 : decode cX5_firstError 1 = .ok (.invokevirtual 162, 3) := by decide +kernel
theorem dX5_firstError_4 : decode cX5_firstError 4 = .ok (.ireturn, 1) := by decide +kernel
theorem dX5_run_0 : decode cX5_run 0 = .ok (.aload_n 0, 1) := by decide +kernel
theorem dX5_run_1 : decode cX5_run 1 = .ok (.invokevirtual 166, 3) := by decide +kernel
theorem dX5_run_4 : decode cX5_run 4 = .ok (.ifCond .ne 13, 3) := by decide +kernel
theorem dX5_run_7 : decode cX5_run 7 = .ok (.new 45, 3) := by decide +kernel
theorem dX5_run_10 : decode cX5_run 10 = .ok (.dup, 1) := by decide +kernel
theorem dX5_run_11 : decode cX5_run 11 = .ok (.ldc 169, 2) := by decide +kernel
theorem dX5_run_13 : decode cX5_run 13 = .ok (.invokespecial 49, 3) := by decide +kernel
theorem dX5_run_16 : decode cX5_run 16 = .ok (.athrow, 1) := by decide +kernel
theorem dX5_run_17 : decode cX5_run 17 = .ok (.aload_n 0, 1) := by decide +kernel
theorem dX5_run_18 : decode cX5_run 18 = .ok (.getfield 19, 3) := by decide +kernel
theorem dX5_run_21 : decode cX5_run 21 = .ok (.aload_n 0, 1) := by decide +kernel
theorem dX5_run_22 : decode cX5_run 22 = .ok (.getfield 10, 3) := by decide +kernel
theorem dX5_run_25 : decode cX5_run 25 = .ok (.invokevirtual 61, 3) := by decide +kernel
theorem dX5_run_28 : decode cX5_run 28 = .ok (.aload_n 0, 1) := by decide +kernel
theorem dX5_run_29 : decode cX5_run 29 = .ok (.invokevirtual 171, 3) := by decide +kernel
theorem dX5_run_32 : decode cX5_run 32 = .ok (.istore_n 1, 1) := by decide +kernel
theorem dX5_run_33 : decode cX5_run 33 = .ok (.aload_n 0, 1) := by decide +kernel
theorem dX5_run_34 : decode cX5_run 34 = .ok (.iconst 0, 1) := by decide +kernel
theorem dX5_run_35 : decode cX5_run 35 = .ok (.putfield 41, 3) := by decide +kernel
theorem dX5_run_38 : decode cX5_run 38 = .ok (.iload_n 1, 1) := by decide +kernel
theorem dX5_run_39 : decode cX5_run 39 = .ok (.ireturn, 1) := by decide +kernel
theorem dX5_undo_0 : decode cX5_undo 0 = .ok (.aload_n 0, 1) := by decide +kernel
theorem dX5_undo_1 : decode cX5_undo 1 = .ok (.getfield 19, 3) := by decide +kernel
theorem dX5_undo_4 : decode cX5_undo 4 = .ok (.getfield 174, 3) := by decide +kernel
theorem dX5_undo_7 : decode cX5_undo 7 = .ok (.ifCond .ne 13, 3) := by decide +kernel
theorem dX5_undo_10 : decode cX5_undo 10 = .ok (.new 56, 3) := by decide +kernel
theorem dX5_undo_13 : decode cX5_undo 13 = .ok (.dup, 1) := by decide +kernel
theorem dX5_undo_14 : decode cX5_undo 14 = .ok (.ldc 177, 2) := by decide +kernel
theorem dX5_undo_16 : decode cX5_undo 16 = .ok (.invokespecial 60, 3) := by decide +kernel
theorem dX5_undo_19 : decode cX5_undo 19 = .ok (.athrow, 1) := by decide +kernel
theorem dX5_undo_20 : decode cX5_undo 20 = .ok (.aload_n 0, 1) := by decide +kernel
theorem dX5_undo_21 : decode cX5_undo 21 = .ok (.getfield 19, 3) := by decide +kernel
theorem dX5_undo_24 : decode cX5_undo 24 = .ok (.aload_n 0, 1) := by decide +kernel
theorem dX5_undo_25 : decode cX5_undo 25 = .ok (.getfield 10, 3) := by decide +kernel
theorem dX5_undo_28 : decode cX5_undo 28 = .ok (.invokevirtual 179, 3) := by decide +kernel
theorem dX5_undo_31 : decode cX5_undo 31 = .ok (.aload_n 0, 1) := by decide +kernel
theorem dX5_undo_32 : decode cX5_undo 32 = .ok (.getfield 19, 3) := by decide +kernel
theorem dX5_undo_35 : decode cX5_undo 35 = .ok (.getfield 174, 3) := by decide +kernel
theorem dX5_undo_38 : decode cX5_undo 38 = .ok (.ireturn, 1) := by decide +kernel
theorem dX5_axis_0 : decode cX5_axis 0 = .ok (.aload_n 0, 1) := by decide +kernel
theorem dX5_axis_1 : decode cX5_axis 1 = .ok (.iload_n 1, 1) := by decide +kernel
theorem dX5_axis_2 : decode cX5_axis 2 = .ok (.invokevirtual 65, 3) := by decide +kernel
theorem dX5_axis_5 : decode cX5_axis 5 = .ok (.astore_n 3, 1) := by decide +kernel
theorem dX5_axis_6 : decode cX5_axis 6 = .ok (.iload_n 2, 1) := by decide +kernel
theorem dX5_axis_7 : decode cX5_axis 7 = .ok (.ifCond .lt 9, 3) := by decide +kernel
theorem dX5_axis_10 : decode cX5_axis 10 = .ok (.iload_n 2, 1) := by decide +kernel
theorem dX5_axis_11 : decode cX5_axis 11 = .ok (.bipush 12, 2) := by decide +kernel
theorem dX5_axis_13 : decode cX5_axis 13 = .ok (.if_icmp .lt 13, 3) := by decide +kernel
theorem dX5_axis_16 : decode cX5_axis 16 = .ok (.new 45, 3) := by decide +kernel
theorem dX5_axis_19 : decode cX5_axis 19 = .ok (.dup, 1) := by decide +kernel
theorem dX5_axis_20 : decode cX5_axis 20 = .ok (.ldc 182, 2) := by decide +kernel
theorem dX5_axis_22 : decode cX5_axis 22 = .ok (.invokespecial 49, 3) := by decide +kernel
theorem dX5_axis_25 : decode cX5_axis 25 = .ok (.athrow, 1) := by decide +kernel
theorem dX5_axis_26 : decode cX5_axis 26 = .ok (.aload_n 3, 1) := by decide +kernel
theorem dX5_axis_27 : decode cX5_axis 27 = .ok (.iload_n 2, 1) := by decide +kernel
theorem dX5_axis_28 : decode cX5_axis 28 = .ok (.invokevirtual 184, 3) := by decide +kernel
theorem dX5_axis_31 : decode cX5_axis 31 = .ok (.ireturn, 1) := by decide +kernel
theorem dX5_wear_0 : decode cX5_wear 0 = .ok (.aload_n 0, 1) := by decide +kernel
theorem dX5_wear_1 : decode cX5_wear 1 = .ok (.iload_n 1, 1) := by decide +kernel
theorem dX5_wear_2 : decode cX5_wear 2 = .ok (.invokevirtual 65, 3) := by decide +kernel
theorem dX5_wear_5 : decode cX5_wear 5 = .ok (.astore_n 3, 1) := by decide +kernel
theorem dX5_wear_6 : decode cX5_wear 6 = .ok (.iload_n 2, 1) := by decide +kernel
theorem dX5_wear_7 : decode cX5_wear 7 = .ok (.invokestatic 141, 3) := by decide +kernel
theorem dX5_wear_10 : decode cX5_wear 10 = .ok (.aload_n 3, 1) := by decide +kernel
theorem dX5_wear_11 : decode cX5_wear 11 = .ok (.iload_n 2, 1) := by decide +kernel
theorem dX5_wear_12 : decode cX5_wear 12 = .ok (.invokevirtual 144, 3) := by decide +kernel
theorem dX5_wear_15 : decode cX5_wear 15 = .ok (.ireturn, 1) := by decide +kernel
theorem dX5_count_0 : decode cX5_count 0 = .ok (.iload_n 1, 1) := by decide +kernel
theorem dX5_count_1 : decode cX5_count 1 = .ok (.ifCond .lt 9, 3) := by decide +kernel
theorem dX5_count_4 : decode cX5_count 4 = .ok (.iload_n 1, 1) := by decide +kernel
theorem dX5_count_5 : decode cX5_count 5 = .ok (.bipush 9, 2) := by decide +kernel
theorem dX5_count_7 : decode cX5_count 7 = .ok (.if_icmp .lt 13, 3) := by decide +kernel
theorem dX5_count_10 : decode cX5_count 10 = .ok (.new 45, 3) := by decide +kernel
theorem dX5_count_13 : decode cX5_count 13 = .ok (.dup, 1) := by decide +kernel
theorem dX5_count_14 : decode cX5_count 14 = .ok (.ldc 187, 2) := by decide +kernel
theorem dX5_count_16 : decode cX5_count 16 = .ok (.invokespecial 49, 3) := by decide +kernel
theorem dX5_count_19 : decode cX5_count 19 = .ok (.athrow, 1) := by decide +kernel
theorem dX5_count_20 : decode cX5_count 20 = .ok (.aload_n 0, 1) := by decide +kernel
theorem dX5_count_21 : decode cX5_count 21 = .ok (.iload_n 1, 1) := by decide +kernel
theorem dX5_count_22 : decode cX5_count 22 = .ok (.invokevirtual 189, 3) := by decide +kernel
theorem dX5_count_25 : decode cX5_count 25 = .ok (.ireturn, 1) := by decide +kernel
theorem dX5_setting_0 : decode cX5_setting 0 = .ok (.iload_n 1, 1) := by decide +kernel
theorem dX5_setting_1 : decode cX5_setting 1 = .ok (.invokestatic 74, 3) := by decide +kernel
theorem dX5_setting_4 : decode cX5_setting 4 = .ok (.aload_n 0, 1) := by decide +kernel
theorem dX5_setting_5 : decode cX5_setting 5 = .ok (.getfield 10, 3) := by decide +kernel
theorem dX5_setting_8 : decode cX5_setting 8 = .ok (.getfield 84, 3) := by decide +kernel
theorem dX5_setting_11 : decode cX5_setting 11 = .ok (.iload_n 1, 1) := by decide +kernel
theorem dX5_setting_12 : decode cX5_setting 12 = .ok (.invokevirtual 88, 3) := by decide +kernel
theorem dX5_setting_15 : decode cX5_setting 15 = .ok (.ireturn, 1) := by decide +kernel
theorem dX5_toll_0 : decode cX5_toll 0 = .ok (.aload_n 0, 1) := by decide +kernel
theorem dX5_toll_1 : decode cX5_toll 1 = .ok (.iload_n 1, 1) := by decide +kernel
theorem dX5_toll_2 : decode cX5_toll 2 = .ok (.invokevirtual 65, 3) := by decide +kernel
theorem dX5_toll_5 : decode cX5_toll 5 = .ok (.iload_n 2, 1) := by decide +kernel
theorem dX5_toll_6 : decode cX5_toll 6 = .ok (.invokestatic 100, 3) := by decide +kernel
theorem dX5_toll_9 : decode cX5_toll 9 = .ok (.aload_n 0, 1) := by decide +kernel
theorem dX5_toll_10 : decode cX5_toll 10 = .ok (.getfield 10, 3) := by decide +kernel
theorem dX5_toll_13 : decode cX5_toll 13 = .ok (.getfield 84, 3) := by decide +kernel
theorem dX5_toll_16 : decode cX5_toll 16 = .ok (.invokevirtual 192, 3) := by decide +kernel
theorem dX5_toll_19 : decode cX5_toll 19 = .ok (.ireturn, 1) := by decide +kernel
theorem dX5_slips_0 : decode cX5_slips 0 = .ok (.aload_n 0, 1) := by decide +kernel
theorem dX5_slips_1 : decode cX5_slips 1 = .ok (.aload_n 0, 1) := by decide +kernel
theorem dX5_slips_2 : decode cX5_slips 2 = .ok (.iload_n 1, 1) := by decide +kernel
theorem dX5_slips_3 : decode cX5_slips 3 = .ok (.invokevirtual 65, 3) := by decide +kernel
theorem dX5_slips_6 : decode cX5_slips 6 = .ok (.iload_n 2, 1) := by decide +kernel
theorem dX5_slips_7 : decode cX5_slips 7 = .ok (.invokestatic 100, 3) := by decide +kernel
theorem dX5_slips_10 : decode cX5_slips 10 = .ok (.invokevirtual 196, 3) := by decide +kernel
theorem dX5_slips_13 : decode cX5_slips 13 = .ok (.ireturn, 1) := by decide +kernel
theorem dX5_cost_0 : decode cX5_cost 0 = .ok (.aload_n 0, 1) := by decide +kernel
theorem dX5_cost_1 : decode cX5_cost 1 = .ok (.iload_n 1, 1) := by decide +kernel
theorem dX5_cost_2 : decode cX5_cost 2 = .ok (.invokevirtual 65, 3) := by decide +kernel
theorem dX5_cost_5 : decode cX5_cost 5 = .ok (.astore 4, 2) := by decide +kernel
theorem dX5_cost_7 : decode cX5_cost 7 = .ok (.iload_n 2, 1) := by decide +kernel
theorem dX5_cost_8 : decode cX5_cost 8 = .ok (.invokestatic 114, 3) := by decide +kernel
theorem dX5_cost_11 : decode cX5_cost 11 = .ok (.aload 4, 2) := by decide +kernel
theorem dX5_cost_13 : decode cX5_cost 13 = .ok (.iload_n 2, 1) := by decide +kernel
theorem dX5_cost_14 : decode cX5_cost 14 = .ok (.iload_n 3, 1) := by decide +kernel
theorem dX5_cost_15 : decode cX5_cost 15 = .ok (.invokestatic 100, 3) := by decide +kernel
theorem dX5_cost_18 : decode cX5_cost 18 = .ok (.iconst (-1), 1) := by decide +kernel
theorem dX5_cost_19 : decode cX5_cost 19 = .ok (.aload_n 0, 1) := by decide +kernel
theorem dX5_cost_20 : decode cX5_cost 20 = .ok (.getfield 10, 3) := by decide +kernel
theorem dX5_cost_23 : decode cX5_cost 23 = .ok (.getfield 84, 3) := by decide +kernel
theorem dX5_cost_26 : decode cX5_cost 26 = .ok (.invokevirtual 199, 3) := by decide +kernel
theorem dX5_cost_29 : decode cX5_cost 29 = .ok (.ireturn, 1) := by decide +kernel
theorem dX5_ifHomed_0 : decode cX5_ifHomed 0 = .ok (.aload_n 0, 1) := by decide +kernel
theorem dX5_ifHomed_1 : decode cX5_ifHomed 1 = .ok (.iload_n 1, 1) := by decide +kernel
theorem dX5_ifHomed_2 : decode cX5_ifHomed 2 = .ok (.invokevirtual 65, 3) := by decide +kernel
theorem dX5_ifHomed_5 : decode cX5_ifHomed 5 = .ok (.astore_n 3, 1) := by decide +kernel
theorem dX5_ifHomed_6 : decode cX5_ifHomed 6 = .ok (.iload_n 2, 1) := by decide +kernel
theorem dX5_ifHomed_7 : decode cX5_ifHomed 7 = .ok (.ifCond .lt 8, 3) := by decide +kernel
theorem dX5_ifHomed_10 : decode cX5_ifHomed 10 = .ok (.iload_n 2, 1) := by decide +kernel
theorem dX5_ifHomed_11 : decode cX5_ifHomed 11 = .ok (.iconst 3, 1) := by decide +kernel
theorem dX5_ifHomed_12 : decode cX5_ifHomed 12 = .ok (.if_icmp .lt 13, 3) := by decide +kernel
theorem dX5_ifHomed_15 : decode cX5_ifHomed 15 = .ok (.new 45, 3) := by decide +kernel
theorem dX5_ifHomed_18 : decode cX5_ifHomed 18 = .ok (.dup, 1) := by decide +kernel
theorem dX5_ifHomed_19 : decode cX5_ifHomed 19 = .ok (.ldc 203, 2) := by decide +kernel
theorem dX5_ifHomed_21 : decode cX5_ifHomed 21 = .ok (.invokespecial 49, 3) := by decide +kernel
theorem dX5_ifHomed_24 : decode cX5_ifHomed 24 = .ok (.athrow, 1) := by decide +kernel
theorem dX5_ifHomed_25 : decode cX5_ifHomed 25 = .ok (.aload_n 0, 1) := by decide +kernel
theorem dX5_ifHomed_26 : decode cX5_ifHomed 26 = .ok (.aload_n 3, 1) := by decide +kernel
theorem dX5_ifHomed_27 : decode cX5_ifHomed 27 = .ok (.iload_n 2, 1) := by decide +kernel
theorem dX5_ifHomed_28 : decode cX5_ifHomed 28 = .ok (.invokevirtual 205, 3) := by decide +kernel
theorem dX5_ifHomed_31 : decode cX5_ifHomed 31 = .ok (.ireturn, 1) := by decide +kernel
theorem dX5_reach_0 : decode cX5_reach 0 = .ok (.aload_n 0, 1) := by decide +kernel
theorem dX5_reach_1 : decode cX5_reach 1 = .ok (.aload_n 0, 1) := by decide +kernel
theorem dX5_reach_2 : decode cX5_reach 2 = .ok (.iload_n 1, 1) := by decide +kernel
theorem dX5_reach_3 : decode cX5_reach 3 = .ok (.invokevirtual 65, 3) := by decide +kernel
theorem dX5_reach_6 : decode cX5_reach 6 = .ok (.iload_n 2, 1) := by decide +kernel
theorem dX5_reach_7 : decode cX5_reach 7 = .ok (.invokestatic 100, 3) := by decide +kernel
theorem dX5_reach_10 : decode cX5_reach 10 = .ok (.invokevirtual 208, 3) := by decide +kernel
theorem dX5_reach_13 : decode cX5_reach 13 = .ok (.ireturn, 1) := by decide +kernel
theorem dX5_couldBe_0 : decode cX5_couldBe 0 = .ok (.aload_n 0, 1) := by decide +kernel
theorem dX5_couldBe_1 : decode cX5_couldBe 1 = .ok (.iload_n 1, 1) := by decide +kernel
theorem dX5_couldBe_2 : decode cX5_couldBe 2 = .ok (.invokevirtual 65, 3) := by decide +kernel
theorem dX5_couldBe_5 : decode cX5_couldBe 5 = .ok (.invokevirtual 211, 3) := by decide +kernel
theorem dX5_couldBe_8 : decode cX5_couldBe 8 = .ok (.ireturn, 1) := by decide +kernel
theorem dX5_worst_0 : decode cX5_worst 0 = .ok (.aload_n 0, 1) := by decide +kernel
theorem dX5_worst_1 : decode cX5_worst 1 = .ok (.iload_n 1, 1) := by decide +kernel
theorem dX5_worst_2 : decode cX5_worst 2 = .ok (.invokevirtual 65, 3) := by decide +kernel
theorem dX5_worst_5 : decode cX5_worst 5 = .ok (.astore_n 3, 1) := by decide +kernel
theorem dX5_worst_6 : decode cX5_worst 6 = .ok (.iload_n 2, 1) := by decide +kernel
theorem dX5_worst_7 : decode cX5_worst 7 = .ok (.invokestatic 114, 3) := by decide +kernel
theorem dX5_worst_10 : decode cX5_worst 10 = .ok (.aload_n 0, 1) := by decide +kernel
theorem dX5_worst_11 : decode cX5_worst 11 = .ok (.aload_n 3, 1) := by decide +kernel
theorem dX5_worst_12 : decode cX5_worst 12 = .ok (.iload_n 2, 1) := by decide +kernel
theorem dX5_worst_13 : decode cX5_worst 13 = .ok (.invokevirtual 214, 3) := by decide +kernel
theorem dX5_worst_16 : decode cX5_worst 16 = .ok (.ireturn, 1) := by decide +kernel
theorem dX5_meanToll_0 : decode cX5_meanToll 0 = .ok (.aload_n 0, 1) := by decide +kernel
theorem dX5_meanToll_1 : decode cX5_meanToll 1 = .ok (.getfield 10, 3) := by decide +kernel
theorem dX5_meanToll_4 : decode cX5_meanToll 4 = .ok (.bipush 6, 2) := by decide +kernel
theorem dX5_meanToll_6 : decode cX5_meanToll 6 = .ok (.invokevirtual 217, 3) := by decide +kernel
theorem dX5_meanToll_9 : decode cX5_meanToll 9 = .ok (.istore_n 1, 1) := by decide +kernel
theorem dX5_meanToll_10 : decode cX5_meanToll 10 = .ok (.iload_n 1, 1) := by decide +kernel
theorem dX5_meanToll_11 : decode cX5_meanToll 11 = .ok (.ifCond .gt 5, 3) := by decide +kernel
theorem dX5_meanToll_14 : decode cX5_meanToll 14 = .ok (.dconst 0, 1) := by decide +kernel
theorem dX5_meanToll_15 : decode cX5_meanToll 15 = .ok (.dreturn, 1) := by decide +kernel
theorem dX5_meanToll_16 : decode cX5_meanToll 16 = .ok (.aload_n 0, 1) := by decide +kernel
theorem dX5_meanToll_17 : decode cX5_meanToll 17 = .ok (.getfield 10, 3) := by decide +kernel
theorem dX5_meanToll_20 : decode cX5_meanToll 20 = .ok (.bipush 8, 2) := by decide +kernel
theorem dX5_meanToll_22 : decode cX5_meanToll 22 = .ok (.invokevirtual 217, 3) := by decide +kernel
theorem dX5_meanToll_25 : decode cX5_meanToll 25 = .ok (.i2d, 1) := by decide +kernel
theorem dX5_meanToll_26 : decode cX5_meanToll 26 = .ok (.iload_n 1, 1) := by decide +kernel
theorem dX5_meanToll_27 : decode cX5_meanToll 27 = .ok (.i2d, 1) := by decide +kernel
theorem dX5_meanToll_28 : decode cX5_meanToll 28 = .ok (.ddiv, 1) := by decide +kernel
theorem dX5_meanToll_29 : decode cX5_meanToll 29 = .ok (.dreturn, 1) := by decide +kernel
theorem dX5_digest_0 : decode cX5_digest 0 = .ok (.ldc2_w 220, 3) := by decide +kernel
theorem dX5_digest_3 : decode cX5_digest 3 = .ok (.lstore_n 1, 1) := by decide +kernel
theorem dX5_digest_4 : decode cX5_digest 4 = .ok (.iconst 0, 1) := by decide +kernel
theorem dX5_digest_5 : decode cX5_digest 5 = .ok (.istore_n 3, 1) := by decide +kernel
theorem dX5_digest_6 : decode cX5_digest 6 = .ok (.iload_n 3, 1) := by decide +kernel
theorem dX5_digest_7 : decode cX5_digest 7 = .ok (.bipush 9, 2) := by decide +kernel
theorem dX5_digest_9 : decode cX5_digest 9 = .ok (.if_icmp .ge 20, 3) := by decide +kernel
theorem dX5_digest_12 : decode cX5_digest 12 = .ok (.lload_n 1, 1) := by decide +kernel
theorem dX5_digest_13 : decode cX5_digest 13 = .ok (.aload_n 0, 1) := by decide +kernel
theorem dX5_digest_14 : decode cX5_digest 14 = .ok (.iload_n 3, 1) := by decide +kernel
theorem dX5_digest_15 : decode cX5_digest 15 = .ok (.invokevirtual 189, 3) := by decide +kernel
theorem dX5_digest_18 : decode cX5_digest 18 = .ok (.i2l, 1) := by decide +kernel
theorem dX5_digest_19 : decode cX5_digest 19 = .ok (.invokestatic 222, 3) := by decide +kernel
theorem dX5_digest_22 : decode cX5_digest 22 = .ok (.lstore_n 1, 1) := by decide +kernel
theorem dX5_digest_23 : decode cX5_digest 23 = .ok (.iinc 3 1, 3) := by decide +kernel
theorem dX5_digest_26 : decode cX5_digest 26 = .ok (.goto (-20), 3) := by decide +kernel
theorem dX5_digest_29 : decode cX5_digest 29 = .ok (.iconst 0, 1) := by decide +kernel
theorem dX5_digest_30 : decode cX5_digest 30 = .ok (.istore_n 3, 1) := by decide +kernel
theorem dX5_digest_31 : decode cX5_digest 31 = .ok (.iload_n 3, 1) := by decide +kernel
theorem dX5_digest_32 : decode cX5_digest 32 = .ok (.bipush 6, 2) := by decide +kernel
theorem dX5_digest_34 : decode cX5_digest 34 = .ok (.if_icmp .ge 26, 3) := by decide +kernel
theorem dX5_digest_37 : decode cX5_digest 37 = .ok (.lload_n 1, 1) := by decide +kernel
theorem dX5_digest_38 : decode cX5_digest 38 = .ok (.aload_n 0, 1) := by decide +kernel
theorem dX5_digest_39 : decode cX5_digest 39 = .ok (.getfield 10, 3) := by decide +kernel
theorem dX5_digest_42 : decode cX5_digest 42 = .ok (.getfield 84, 3) := by decide +kernel
theorem dX5_digest_45 : decode cX5_digest 45 = .ok (.iload_n 3, 1) := by decide +kernel
theorem dX5_digest_46 : decode cX5_digest 46 = .ok (.invokevirtual 88, 3) := by decide +kernel
theorem dX5_digest_49 : decode cX5_digest 49 = .ok (.i2l, 1) := by decide +kernel
theorem dX5_digest_50 : decode cX5_digest 50 = .ok (.invokestatic 222, 3) := by decide +kernel
theorem dX5_digest_53 : decode cX5_digest 53 = .ok (.lstore_n 1, 1) := by decide +kernel
theorem dX5_digest_54 : decode cX5_digest 54 = .ok (.iinc 3 1, 3) := by decide +kernel
theorem dX5_digest_57 : decode cX5_digest 57 = .ok (.goto (-26), 3) := by decide +kernel
theorem dX5_digest_60 : decode cX5_digest 60 = .ok (.iconst 0, 1) := by decide +kernel
theorem dX5_digest_61 : decode cX5_digest 61 = .ok (.istore_n 3, 1) := by decide +kernel
theorem dX5_digest_62 : decode cX5_digest 62 = .ok (.iload_n 3, 1) := by decide +kernel
theorem dX5_digest_63 : decode cX5_digest 63 = .ok (.iconst 4, 1) := by decide +kernel
theorem dX5_digest_64 : decode cX5_digest 64 = .ok (.if_icmp .ge 37, 3) := by decide +kernel
theorem dX5_digest_67 : decode cX5_digest 67 = .ok (.aload_n 0, 1) := by decide +kernel
theorem dX5_digest_68 : decode cX5_digest 68 = .ok (.getfield 10, 3) := by decide +kernel
theorem dX5_digest_71 : decode cX5_digest 71 = .ok (.iload_n 3, 1) := by decide +kernel
theorem dX5_digest_72 : decode cX5_digest 72 = .ok (.invokevirtual 226, 3) := by decide +kernel
theorem dX5_digest_75 : decode cX5_digest 75 = .ok (.astore 4, 2) := by decide +kernel
theorem dX5_digest_77 : decode cX5_digest 77 = .ok (.aload 4, 2) := by decide +kernel
theorem dX5_digest_79 : decode cX5_digest 79 = .ok (.ifnull 16, 3) := by decide +kernel
theorem dX5_digest_82 : decode cX5_digest 82 = .ok (.aload_n 0, 1) := by decide +kernel
theorem dX5_digest_83 : decode cX5_digest 83 = .ok (.lload_n 1, 1) := by decide +kernel
theorem dX5_digest_84 : decode cX5_digest 84 = .ok (.aload 4, 2) := by decide +kernel
theorem dX5_digest_86 : decode cX5_digest 86 = .ok (.invokestatic 229, 3) := by decide +kernel
theorem dX5_digest_89 : decode cX5_digest 89 = .ok (.aload 4, 2) := by decide +kernel
theorem dX5_digest_91 : decode cX5_digest 91 = .ok (.invokevirtual 233, 3) := by decide +kernel
theorem dX5_digest_94 : decode cX5_digest 94 = .ok (.lstore_n 1, 1) := by decide +kernel
theorem dX5_digest_95 : decode cX5_digest 95 = .ok (.iinc 3 1, 3) := by decide +kernel
theorem dX5_digest_98 : decode cX5_digest 98 = .ok (.goto (-36), 3) := by decide +kernel
theorem dX5_digest_101 : decode cX5_digest 101 = .ok (.lload_n 1, 1) := by decide +kernel
theorem dX5_digest_102 : decode cX5_digest 102 = .ok (.aload_n 0, 1) := by decide +kernel
theorem dX5_digest_103 : decode cX5_digest 103 = .ok (.invokevirtual 236, 3) := by decide +kernel
theorem dX5_digest_106 : decode cX5_digest 106 = .ok (.invokestatic 240, 3) := by decide +kernel
theorem dX5_digest_109 : decode cX5_digest 109 = .ok (.invokestatic 222, 3) := by decide +kernel
theorem dX5_digest_112 : decode cX5_digest 112 = .ok (.lstore_n 1, 1) := by decide +kernel
theorem dX5_digest_113 : decode cX5_digest 113 = .ok (.lload_n 1, 1) := by decide +kernel
theorem dX5_digest_114 : decode cX5_digest 114 = .ok (.aload_n 0, 1) := by decide +kernel
theorem dX5_digest_115 : decode cX5_digest 115 = .ok (.getfield 41, 3) := by decide +kernel
theorem dX5_digest_118 : decode cX5_digest 118 = .ok (.i2l, 1) := by decide +kernel
theorem dX5_digest_119 : decode cX5_digest 119 = .ok (.invokestatic 222, 3) := by decide +kernel
theorem dX5_digest_122 : decode cX5_digest 122 = .ok (.lstore_n 1, 1) := by decide +kernel
theorem dX5_digest_123 : decode cX5_digest 123 = .ok (.iconst 0, 1) := by decide +kernel
theorem dX5_digest_124 : decode cX5_digest 124 = .ok (.istore_n 3, 1) := by decide +kernel
theorem dX5_digest_125 : decode cX5_digest 125 = .ok (.iload_n 3, 1) := by decide +kernel
theorem dX5_digest_126 : decode cX5_digest 126 = .ok (.aload_n 0, 1) := by decide +kernel
theorem dX5_digest_127 : decode cX5_digest 127 = .ok (.getfield 41, 3) := by decide +kernel
theorem dX5_digest_130 : decode cX5_digest 130 = .ok (.if_icmp .ge 20, 3) := by decide +kernel
theorem dX5_digest_133 : decode cX5_digest 133 = .ok (.lload_n 1, 1) := by decide +kernel
theorem dX5_digest_134 : decode cX5_digest 134 = .ok (.aload_n 0, 1) := by decide +kernel
theorem dX5_digest_135 : decode cX5_digest 135 = .ok (.iload_n 3, 1) := by decide +kernel
theorem dX5_digest_136 : decode cX5_digest 136 = .ok (.invokevirtual 244, 3) := by decide +kernel
theorem dX5_digest_139 : decode cX5_digest 139 = .ok (.i2l, 1) := by decide +kernel
theorem dX5_digest_140 : decode cX5_digest 140 = .ok (.invokestatic 222, 3) := by decide +kernel
theorem dX5_digest_143 : decode cX5_digest 143 = .ok (.lstore_n 1, 1) := by decide +kernel
theorem dX5_digest_144 : decode cX5_digest 144 = .ok (.iinc 3 1, 3) := by decide +kernel
theorem dX5_digest_147 : decode cX5_digest 147 = .ok (.goto (-22), 3) := by decide +kernel
theorem dX5_digest_150 : decode cX5_digest 150 = .ok (.lload_n 1, 1) := by decide +kernel
theorem dX5_digest_151 : decode cX5_digest 151 = .ok (.lreturn, 1) := by decide +kernel
theorem dX5_gearOf_0 : decode cX5_gearOf 0 = .ok (.aload_n 0, 1) := by decide +kernel
theorem dX5_gearOf_1 : decode cX5_gearOf 1 = .ok (.getfield 10, 3) := by decide +kernel
theorem dX5_gearOf_4 : decode cX5_gearOf 4 = .ok (.iload_n 1, 1) := by decide +kernel
theorem dX5_gearOf_5 : decode cX5_gearOf 5 = .ok (.invokevirtual 226, 3) := by decide +kernel
theorem dX5_gearOf_8 : decode cX5_gearOf 8 = .ok (.astore_n 2, 1) := by decide +kernel
theorem dX5_gearOf_9 : decode cX5_gearOf 9 = .ok (.aload_n 2, 1) := by decide +kernel
theorem dX5_gearOf_10 : decode cX5_gearOf 10 = .ok (.ifnonnull 13, 3) := by decide +kernel
theorem dX5_gearOf_13 : decode cX5_gearOf 13 = .ok (.new 247, 3) := by decide +kernel
theorem dX5_gearOf_16 : decode cX5_gearOf 16 = .ok (.dup, 1) := by decide +kernel
theorem dX5_gearOf_17 : decode cX5_gearOf 17 = .ok (.ldc 249, 2) := by decide +kernel
theorem dX5_gearOf_19 : decode cX5_gearOf 19 = .ok (.invokespecial 251, 3) := by decide +kernel
theorem dX5_gearOf_22 : decode cX5_gearOf 22 = .ok (.athrow, 1) := by decide +kernel
theorem dX5_gearOf_23 : decode cX5_gearOf 23 = .ok (.aload_n 2, 1) := by decide +kernel
theorem dX5_gearOf_24 : decode cX5_gearOf 24 = .ok (.areturn, 1) := by decide +kernel
theorem dX5_checkSetting_0 : decode cX5_checkSetting 0 = .ok (.iload_n 0, 1) := by decide +kernel
theorem dX5_checkSetting_1 : decode cX5_checkSetting 1 = .ok (.ifCond .lt 9, 3) := by decide +kernel
theorem dX5_checkSetting_4 : decode cX5_checkSetting 4 = .ok (.iload_n 0, 1) := by decide +kernel
theorem dX5_checkSetting_5 : decode cX5_checkSetting 5 = .ok (.bipush 6, 2) := by decide +kernel
theorem dX5_checkSetting_7 : decode cX5_checkSetting 7 = .ok (.if_icmp .lt 13, 3) := by decide +kernel
theorem dX5_checkSetting_10 : decode cX5_checkSetting 10 = .ok (.new 247, 3) := by decide +kernel
theorem dX5_checkSetting_13 : decode cX5_checkSetting 13 = .ok (.dup, 1) := by decide +kernel
theorem dX5_checkSetting_14 : decode cX5_checkSetting 14 = .ok (.ldc 252, 2) := by decide +kernel
theorem dX5_checkSetting_16 : decode cX5_checkSetting 16 = .ok (.invokespecial 251, 3) := by decide +kernel
theorem dX5_checkSetting_19 : decode cX5_checkSetting 19 = .ok (.athrow, 1) := by decide +kernel
theorem dX5_checkSetting_20 : decode cX5_checkSetting 20 = .ok (.return_, 1) := by decide +kernel
theorem dX5_checkTooth_0 : decode cX5_checkTooth 0 = .ok (.iload_n 0, 1) := by decide +kernel
theorem dX5_checkTooth_1 : decode cX5_checkTooth 1 = .ok (.ifCond .lt 9, 3) := by decide +kernel
theorem dX5_checkTooth_4 : decode cX5_checkTooth 4 = .ok (.iload_n 0, 1) := by decide +kernel
theorem dX5_checkTooth_5 : decode cX5_checkTooth 5 = .ok (.bipush 24, 2) := by decide +kernel
theorem dX5_checkTooth_7 : decode cX5_checkTooth 7 = .ok (.if_icmp .lt 13, 3) := by decide +kernel
theorem dX5_checkTooth_10 : decode cX5_checkTooth 10 = .ok (.new 247, 3) := by decide +kernel
theorem dX5_checkTooth_13 : decode cX5_checkTooth 13 = .ok (.dup, 1) := by decide +kernel
theorem dX5_checkTooth_14 : decode cX5_checkTooth 14 = .ok (.ldc 254, 2) := by decide +kernel
theorem dX5_checkTooth_16 : decode cX5_checkTooth 16 = .ok (.invokespecial 251, 3) := by decide +kernel
theorem dX5_checkTooth_19 : decode cX5_checkTooth 19 = .ok (.athrow, 1) := by decide +kernel
theorem dX5_checkTooth_20 : decode cX5_checkTooth 20 = .ok (.return_, 1) := by decide +kernel
theorem dX5_checkPlace_0 : decode cX5_checkPlace 0 = .ok (.iload_n 0, 1) := by decide +kernel
theorem dX5_checkPlace_1 : decode cX5_checkPlace 1 = .ok (.ifCond .lt 9, 3) := by decide +kernel
theorem dX5_checkPlace_4 : decode cX5_checkPlace 4 = .ok (.iload_n 0, 1) := by decide +kernel
theorem dX5_checkPlace_5 : decode cX5_checkPlace 5 = .ok (.bipush 24, 2) := by decide +kernel
theorem dX5_checkPlace_7 : decode cX5_checkPlace 7 = .ok (.if_icmp .lt 14, 3) := by decide +kernel
theorem dX5_checkPlace_10 : decode cX5_checkPlace 10 = .ok (.new 45, 3) := by decide +kernel
theorem dX5_checkPlace_13 : decode cX5_checkPlace 13 = .ok (.dup, 1) := by decide +kernel
theorem dX5_checkPlace_14 : decode cX5_checkPlace 14 = .ok (.ldc_w 256, 3) := by decide +kernel
theorem dX5_checkPlace_17 : decode cX5_checkPlace 17 = .ok (.invokespecial 49, 3) := by decide +kernel
theorem dX5_checkPlace_20 : decode cX5_checkPlace 20 = .ok (.athrow, 1) := by decide +kernel
theorem dX5_checkPlace_21 : decode cX5_checkPlace 21 = .ok (.return_, 1) := by decide +kernel
theorem dX5_isValueOf_0 : decode cX5_isValueOf 0 = .ok (.iload_n 0, 1) := by decide +kernel
theorem dX5_isValueOf_1 : decode cX5_isValueOf 1 = .ok (.ifCond .lt 19, 3) := by decide +kernel
theorem dX5_isValueOf_4 : decode cX5_isValueOf 4 = .ok (.iload_n 0, 1) := by decide +kernel
theorem dX5_isValueOf_5 : decode cX5_isValueOf 5 = .ok (.getstatic 258, 3) := by decide +kernel
theorem dX5_isValueOf_8 : decode cX5_isValueOf 8 = .ok (.arraylength, 1) := by decide +kernel
theorem dX5_isValueOf_9 : decode cX5_isValueOf 9 = .ok (.if_icmp .ge 11, 3) := by decide +kernel
theorem dX5_isValueOf_12 : decode cX5_isValueOf 12 = .ok (.iload_n 0, 1) := by decide +kernel
theorem dX5_isValueOf_13 : decode cX5_isValueOf 13 = .ok (.getstatic 261, 3) := by decide +kernel
theorem dX5_isValueOf_16 : decode cX5_isValueOf 16 = .ok (.arraylength, 1) := by decide +kernel
theorem dX5_isValueOf_17 : decode cX5_isValueOf 17 = .ok (.if_icmp .lt 5, 3) := by decide +kernel
theorem dX5_isValueOf_20 : decode cX5_isValueOf 20 = .ok (.iconst 0, 1) := by decide +kernel
theorem dX5_isValueOf_21 : decode cX5_isValueOf 21 = .ok (.ireturn, 1) := by decide +kernel
theorem dX5_isValueOf_22 : decode cX5_isValueOf 22 = .ok (.iload_n 1, 1) := by decide +kernel
theorem dX5_isValueOf_23 : decode cX5_isValueOf 23 = .ok (.getstatic 258, 3) := by decide +kernel
theorem dX5_isValueOf_26 : decode cX5_isValueOf 26 = .ok (.iload_n 0, 1) := by decide +kernel
theorem dX5_isValueOf_27 : decode cX5_isValueOf 27 = .ok (.iaload, 1) := by decide +kernel
theorem dX5_isValueOf_28 : decode cX5_isValueOf 28 = .ok (.if_icmp .lt 16, 3) := by decide +kernel
theorem dX5_isValueOf_31 : decode cX5_isValueOf 31 = .ok (.iload_n 1, 1) := by decide +kernel
theorem dX5_isValueOf_32 : decode cX5_isValueOf 32 = .ok (.getstatic 261, 3) := by decide +kernel
theorem dX5_isValueOf_35 : decode cX5_isValueOf 35 = .ok (.iload_n 0, 1) := by decide +kernel
theorem dX5_isValueOf_36 : decode cX5_isValueOf 36 = .ok (.iaload, 1) := by decide +kernel
theorem dX5_isValueOf_37 : decode cX5_isValueOf 37 = .ok (.if_icmp .gt 7, 3) := by decide +kernel
theorem dX5_isValueOf_40 : decode cX5_isValueOf 40 = .ok (.iconst 1, 1) := by decide +kernel
theorem dX5_isValueOf_41 : decode cX5_isValueOf 41 = .ok (.goto 4, 3) := by decide +kernel
theorem dX5_isValueOf_44 : decode cX5_isValueOf 44 = .ok (.iconst 0, 1) := by decide +kernel
theorem dX5_isValueOf_45 : decode cX5_isValueOf 45 = .ok (.ireturn, 1) := by decide +kernel
theorem dX5_wayOf_0 : decode cX5_wayOf 0 = .ok (.iload_n 0, 1) := by decide +kernel
theorem dX5_wayOf_1 : decode cX5_wayOf 1 = .ok (.ifCond .eq 7, 3) := by decide +kernel
theorem dX5_wayOf_4 : decode cX5_wayOf 4 = .ok (.iconst 1, 1) := by decide +kernel
theorem dX5_wayOf_5 : decode cX5_wayOf 5 = .ok (.goto 4, 3) := by decide +kernel
theorem dX5_wayOf_8 : decode cX5_wayOf 8 = .ok (.iconst (-1), 1) := by decide +kernel
theorem dX5_wayOf_9 : decode cX5_wayOf 9 = .ok (.ireturn, 1) := by decide +kernel
theorem dX5_canStep_0 : decode cX5_canStep 0 = .ok (.aload_n 1, 1) := by decide +kernel
theorem dX5_canStep_1 : decode cX5_canStep 1 = .ok (.iload_n 2, 1) := by decide +kernel
theorem dX5_canStep_2 : decode cX5_canStep 2 = .ok (.aload_n 0, 1) := by decide +kernel
theorem dX5_canStep_3 : decode cX5_canStep 3 = .ok (.getfield 10, 3) := by decide +kernel
theorem dX5_canStep_6 : decode cX5_canStep 6 = .ok (.getfield 84, 3) := by decide +kernel
theorem dX5_canStep_9 : decode cX5_canStep 9 = .ok (.invokevirtual 192, 3) := by decide +kernel
theorem dX5_canStep_12 : decode cX5_canStep 12 = .ok (.aload_n 0, 1) := by decide +kernel
theorem dX5_canStep_13 : decode cX5_canStep 13 = .ok (.getfield 10, 3) := by decide +kernel
theorem dX5_canStep_16 : decode cX5_canStep 16 = .ok (.getfield 52, 3) := by decide +kernel
theorem dX5_canStep_19 : decode cX5_canStep 19 = .ok (.if_icmp .gt 7, 3) := by decide +kernel
theorem dX5_canStep_22 : decode cX5_canStep 22 = .ok (.iconst 1, 1) := by decide +kernel
theorem dX5_canStep_23 : decode cX5_canStep 23 = .ok (.goto 4, 3) := by decide +kernel
theorem dX5_canStep_26 : decode cX5_canStep 26 = .ok (.iconst 0, 1) := by decide +kernel
theorem dX5_canStep_27 : decode cX5_canStep 27 = .ok (.ireturn, 1) := by decide +kernel
theorem dX5_canGo_0 : decode cX5_canGo 0 = .ok (.aload_n 1, 1) := by decide +kernel
theorem dX5_canGo_1 : decode cX5_canGo 1 = .ok (.getfield 264, 3) := by decide +kernel
theorem dX5_canGo_4 : decode cX5_canGo 4 = .ok (.iload_n 2, 1) := by decide +kernel
theorem dX5_canGo_5 : decode cX5_canGo 5 = .ok (.if_icmp .eq 17, 3) := by decide +kernel
theorem dX5_canGo_8 : decode cX5_canGo 8 = .ok (.aload_n 0, 1) := by decide +kernel
theorem dX5_canGo_9 : decode cX5_canGo 9 = .ok (.aload_n 1, 1) := by decide +kernel
theorem dX5_canGo_10 : decode cX5_canGo 10 = .ok (.aload_n 0, 1) := by decide +kernel
theorem dX5_canGo_11 : decode cX5_canGo 11 = .ok (.aload_n 1, 1) := by decide +kernel
theorem dX5_canGo_12 : decode cX5_canGo 12 = .ok (.iload_n 2, 1) := by decide +kernel
theorem dX5_canGo_13 : decode cX5_canGo 13 = .ok (.invokevirtual 267, 3) := by decide +kernel
theorem dX5_canGo_16 : decode cX5_canGo 16 = .ok (.invokevirtual 104, 3) := by decide +kernel
theorem dX5_canGo_19 : decode cX5_canGo 19 = .ok (.ifCond .eq 7, 3) := by decide +kernel
theorem dX5_canGo_22 : decode cX5_canGo 22 = .ok (.iconst 1, 1) := by decide +kernel
theorem dX5_canGo_23 : decode cX5_canGo 23 = .ok (.goto 4, 3) := by decide +kernel
theorem dX5_canGo_26 : decode cX5_canGo 26 = .ok (.iconst 0, 1) := by decide +kernel
theorem dX5_canGo_27 : decode cX5_canGo 27 = .ok (.ireturn, 1) := by decide +kernel
theorem dX5_canGrease_0 : decode cX5_canGrease 0 = .ok (.aload_n 0, 1) := by decide +kernel
theorem dX5_canGrease_1 : decode cX5_canGrease 1 = .ok (.getfield 10, 3) := by decide +kernel
theorem dX5_canGrease_4 : decode cX5_canGrease 4 = .ok (.getfield 52, 3) := by decide +kernel
theorem dX5_canGrease_7 : decode cX5_canGrease 7 = .ok (.aload_n 0, 1) := by decide +kernel
theorem dX5_canGrease_8 : decode cX5_canGrease 8 = .ok (.getfield 10, 3) := by decide +kernel
theorem dX5_canGrease_11 : decode cX5_canGrease 11 = .ok (.getfield 84, 3) := by decide +kernel
theorem dX5_canGrease_14 : decode cX5_canGrease 14 = .ok (.getfield 270, 3) := by decide +kernel
theorem dX5_canGrease_17 : decode cX5_canGrease 17 = .ok (.if_icmp .lt 7, 3) := by decide +kernel
theorem dX5_canGrease_20 : decode cX5_canGrease 20 = .ok (.iconst 1, 1) := by decide +kernel
theorem dX5_canGrease_21 : decode cX5_canGrease 21 = .ok (.goto 4, 3) := by decide +kernel
theorem dX5_canGrease_24 : decode cX5_canGrease 24 = .ok (.iconst 0, 1) := by decide +kernel
theorem dX5_canGrease_25 : decode cX5_canGrease 25 = .ok (.ireturn, 1) := by decide +kernel
theorem dX5_makeSteps_0 : decode cX5_makeSteps 0 = .ok (.iconst 0, 1) := by decide +kernel
theorem dX5_makeSteps_1 : decode cX5_makeSteps 1 = .ok (.istore 4, 2) := by decide +kernel
theorem dX5_makeSteps_3 : decode cX5_makeSteps 3 = .ok (.iload 4, 2) := by decide +kernel
theorem dX5_makeSteps_5 : decode cX5_makeSteps 5 = .ok (.iload_n 3, 1) := by decide +kernel
theorem dX5_makeSteps_6 : decode cX5_makeSteps 6 = .ok (.if_icmp .ge 52, 3) := by decide +kernel
theorem dX5_makeSteps_9 : decode cX5_makeSteps 9 = .ok (.aload_n 1, 1) := by decide +kernel
theorem dX5_makeSteps_10 : decode cX5_makeSteps 10 = .ok (.iload_n 2, 1) := by decide +kernel
theorem dX5_makeSteps_11 : decode cX5_makeSteps 11 = .ok (.aload_n 0, 1) := by decide +kernel
theorem dX5_makeSteps_12 : decode cX5_makeSteps 12 = .ok (.getfield 10, 3) := by decide +kernel
theorem dX5_makeSteps_15 : decode cX5_makeSteps 15 = .ok (.getfield 52, 3) := by decide +kernel
theorem dX5_makeSteps_18 : decode cX5_makeSteps 18 = .ok (.aload_n 0, 1) := by decide +kernel
theorem dX5_makeSteps_19 : decode cX5_makeSteps 19 = .ok (.getfield 10, 3) := by decide +kernel
theorem dX5_makeSteps_22 : decode cX5_makeSteps 22 = .ok (.getfield 84, 3) := by decide +kernel
theorem dX5_makeSteps_25 : decode cX5_makeSteps 25 = .ok (.invokevirtual 273, 3) := by decide +kernel
theorem dX5_makeSteps_28 : decode cX5_makeSteps 28 = .ok (.istore 5, 2) := by decide +kernel
theorem dX5_makeSteps_30 : decode cX5_makeSteps 30 = .ok (.iload 5, 2) := by decide +kernel
theorem dX5_makeSteps_32 : decode cX5_makeSteps 32 = .ok (.ifCond .ne 6, 3) := by decide +kernel
theorem dX5_makeSteps_35 : decode cX5_makeSteps 35 = .ok (.goto 23, 3) := by decide +kernel
theorem dX5_makeSteps_38 : decode cX5_makeSteps 38 = .ok (.aload_n 0, 1) := by decide +kernel
theorem dX5_makeSteps_39 : decode cX5_makeSteps 39 = .ok (.getfield 10, 3) := by decide +kernel
theorem dX5_makeSteps_42 : decode cX5_makeSteps 42 = .ok (.dup, 1) := by decide +kernel
theorem dX5_makeSteps_43 : decode cX5_makeSteps 43 = .ok (.getfield 52, 3) := by decide +kernel
theorem dX5_makeSteps_46 : decode cX5_makeSteps 46 = .ok (.iload 5, 2) := by decide +kernel
theorem dX5_makeSteps_48 : decode cX5_makeSteps 48 = .ok (.isub, 1) := by decide +kernel
theorem dX5_makeSteps_49 : decode cX5_makeSteps 49 = .ok (.putfield 52, 3) := by decide +kernel
theorem dX5_makeSteps_52 : decode cX5_makeSteps 52 = .ok (.iinc 4 1, 3) := by decide +kernel
theorem dX5_makeSteps_55 : decode cX5_makeSteps 55 = .ok (.goto (-52), 3) := by decide +kernel
theorem dX5_makeSteps_58 : decode cX5_makeSteps 58 = .ok (.iload 4, 2) := by decide +kernel
theorem dX5_makeSteps_60 : decode cX5_makeSteps 60 = .ok (.ireturn, 1) := by decide +kernel
theorem dX5_goTo_0 : decode cX5_goTo 0 = .ok (.aload_n 0, 1) := by decide +kernel
theorem dX5_goTo_1 : decode cX5_goTo 1 = .ok (.aload_n 1, 1) := by decide +kernel
theorem dX5_goTo_2 : decode cX5_goTo 2 = .ok (.iload_n 2, 1) := by decide +kernel
theorem dX5_goTo_3 : decode cX5_goTo 3 = .ok (.invokevirtual 267, 3) := by decide +kernel
theorem dX5_goTo_6 : decode cX5_goTo 6 = .ok (.istore_n 3, 1) := by decide +kernel
theorem dX5_goTo_7 : decode cX5_goTo 7 = .ok (.iconst 0, 1) := by decide +kernel
theorem dX5_goTo_8 : decode cX5_goTo 8 = .ok (.istore 4, 2) := by decide +kernel
theorem dX5_goTo_10 : decode cX5_goTo 10 = .ok (.iconst 0, 1) := by decide +kernel
theorem dX5_goTo_11 : decode cX5_goTo 11 = .ok (.istore 5, 2) := by decide +kernel
theorem dX5_goTo_13 : decode cX5_goTo 13 = .ok (.iload 5, 2) := by decide +kernel
theorem dX5_goTo_15 : decode cX5_goTo 15 = .ok (.bipush 24, 2) := by decide +kernel
theorem dX5_goTo_17 : decode cX5_goTo 17 = .ok (.if_icmp .ge 67, 3) := by decide +kernel
theorem dX5_goTo_20 : decode cX5_goTo 20 = .ok (.aload_n 1, 1) := by decide +kernel
theorem dX5_goTo_21 : decode cX5_goTo 21 = .ok (.getfield 264, 3) := by decide +kernel
theorem dX5_goTo_24 : decode cX5_goTo 24 = .ok (.iload_n 2, 1) := by decide +kernel
theorem dX5_goTo_25 : decode cX5_goTo 25 = .ok (.if_icmp .eq 59, 3) := by decide +kernel
theorem dX5_goTo_28 : decode cX5_goTo 28 = .ok (.aload_n 1, 1) := by decide +kernel
theorem dX5_goTo_29 : decode cX5_goTo 29 = .ok (.iload_n 3, 1) := by decide +kernel
theorem dX5_goTo_30 : decode cX5_goTo 30 = .ok (.aload_n 0, 1) := by decide +kernel
theorem dX5_goTo_31 : decode cX5_goTo 31 = .ok (.getfield 10, 3) := by decide +kernel
theorem dX5_goTo_34 : decode cX5_goTo 34 = .ok (.getfield 52, 3) := by decide +kernel
theorem dX5_goTo_37 : decode cX5_goTo 37 = .ok (.aload_n 0, 1) := by decide +kernel
theorem dX5_goTo_38 : decode cX5_goTo 38 = .ok (.getfield 10, 3) := by decide +kernel
theorem dX5_goTo_41 : decode cX5_goTo 41 = .ok (.getfield 84, 3) := by decide +kernel
theorem dX5_goTo_44 : decode cX5_goTo 44 = .ok (.invokevirtual 273, 3) := by decide +kernel
theorem dX5_goTo_47 : decode cX5_goTo 47 = .ok (.istore 6, 2) := by decide +kernel
theorem dX5_goTo_49 : decode cX5_goTo 49 = .ok (.iload 6, 2) := by decide +kernel
theorem dX5_goTo_51 : decode cX5_goTo 51 = .ok (.ifCond .ne 6, 3) := by decide +kernel
theorem dX5_goTo_54 : decode cX5_goTo 54 = .ok (.goto 30, 3) := by decide +kernel
theorem dX5_goTo_57 : decode cX5_goTo 57 = .ok (.aload_n 0, 1) := by decide +kernel
theorem dX5_goTo_58 : decode cX5_goTo 58 = .ok (.getfield 10, 3) := by decide +kernel
theorem dX5_goTo_61 : decode cX5_goTo 61 = .ok (.dup, 1) := by decide +kernel
theorem dX5_goTo_62 : decode cX5_goTo 62 = .ok (.getfield 52, 3) := by decide +kernel
theorem dX5_goTo_65 : decode cX5_goTo 65 = .ok (.iload 6, 2) := by decide +kernel
theorem dX5_goTo_67 : decode cX5_goTo 67 = .ok (.isub, 1) := by decide +kernel
theorem dX5_goTo_68 : decode cX5_goTo 68 = .ok (.putfield 52, 3) := by decide +kernel
theorem dX5_goTo_71 : decode cX5_goTo 71 = .ok (.iload 4, 2) := by decide +kernel
theorem dX5_goTo_73 : decode cX5_goTo 73 = .ok (.iload 6, 2) := by decide +kernel
theorem dX5_goTo_75 : decode cX5_goTo 75 = .ok (.iadd, 1) := by decide +kernel
theorem dX5_goTo_76 : decode cX5_goTo 76 = .ok (.istore 4, 2) := by decide +kernel
theorem dX5_goTo_78 : decode cX5_goTo 78 = .ok (.iinc 5 1, 3) := by decide +kernel
theorem dX5_goTo_81 : decode cX5_goTo 81 = .ok (.goto (-68), 3) := by decide +kernel
theorem dX5_goTo_84 : decode cX5_goTo 84 = .ok (.iload 4, 2) := by decide +kernel
theorem dX5_goTo_86 : decode cX5_goTo 86 = .ok (.ireturn, 1) := by decide +kernel
theorem dX5_makeHomed_0 : decode cX5_makeHomed 0 = .ok (.aload_n 1, 1) := by decide +kernel
theorem dX5_makeHomed_1 : decode cX5_makeHomed 1 = .ok (.getfield 277, 3) := by decide +kernel
theorem dX5_makeHomed_4 : decode cX5_makeHomed 4 = .ok (.istore_n 2, 1) := by decide +kernel
theorem dX5_makeHomed_5 : decode cX5_makeHomed 5 = .ok (.aload_n 0, 1) := by decide +kernel
theorem dX5_makeHomed_6 : decode cX5_makeHomed 6 = .ok (.getfield 10, 3) := by decide +kernel
theorem dX5_makeHomed_9 : decode cX5_makeHomed 9 = .ok (.dup, 1) := by decide +kernel
theorem dX5_makeHomed_10 : decode cX5_makeHomed 10 = .ok (.getfield 52, 3) := by decide +kernel
theorem dX5_makeHomed_13 : decode cX5_makeHomed 13 = .ok (.aload_n 1, 1) := by decide +kernel
theorem dX5_makeHomed_14 : decode cX5_makeHomed 14 = .ok (.aload_n 0, 1) := by decide +kernel
theorem dX5_makeHomed_15 : decode cX5_makeHomed 15 = .ok (.getfield 10, 3) := by decide +kernel
theorem dX5_makeHomed_18 : decode cX5_makeHomed 18 = .ok (.getfield 52, 3) := by decide +kernel
theorem dX5_makeHomed_21 : decode cX5_makeHomed 21 = .ok (.aload_n 0, 1) := by decide +kernel
theorem dX5_makeHomed_22 : decode cX5_makeHomed 22 = .ok (.getfield 10, 3) := by decide +kernel
theorem dX5_makeHomed_25 : decode cX5_makeHomed 25 = .ok (.getfield 84, 3) := by decide +kernel
theorem dX5_makeHomed_28 : decode cX5_makeHomed 28 = .ok (.invokevirtual 280, 3) := by decide +kernel
theorem dX5_makeHomed_31 : decode cX5_makeHomed 31 = .ok (.isub, 1) := by decide +kernel
theorem dX5_makeHomed_32 : decode cX5_makeHomed 32 = .ok (.putfield 52, 3) := by decide +kernel
theorem dX5_makeHomed_35 : decode cX5_makeHomed 35 = .ok (.aload_n 1, 1) := by decide +kernel
theorem dX5_makeHomed_36 : decode cX5_makeHomed 36 = .ok (.getfield 277, 3) := by decide +kernel
theorem dX5_makeHomed_39 : decode cX5_makeHomed 39 = .ok (.iload_n 2, 1) := by decide +kernel
theorem dX5_makeHomed_40 : decode cX5_makeHomed 40 = .ok (.if_icmp .le 7, 3) := by decide +kernel
theorem dX5_makeHomed_43 : decode cX5_makeHomed 43 = .ok (.iconst 1, 1) := by decide +kernel
theorem dX5_makeHomed_44 : decode cX5_makeHomed 44 = .ok (.goto 4, 3) := by decide +kernel
theorem dX5_makeHomed_47 : decode cX5_makeHomed 47 = .ok (.iconst 0, 1) := by decide +kernel
theorem dX5_makeHomed_48 : decode cX5_makeHomed 48 = .ok (.ireturn, 1) := by decide +kernel
theorem dX5_makeGreased_0 : decode cX5_makeGreased 0 = .ok (.aload_n 0, 1) := by decide +kernel
theorem dX5_makeGreased_1 : decode cX5_makeGreased 1 = .ok (.getfield 10, 3) := by decide +kernel
theorem dX5_makeGreased_4 : decode cX5_makeGreased 4 = .ok (.aload_n 0, 1) := by decide +kernel
theorem dX5_makeGreased_5 : decode cX5_makeGreased 5 = .ok (.getfield 10, 3) := by decide +kernel
theorem dX5_makeGreased_8 : decode cX5_makeGreased 8 = .ok (.getfield 84, 3) := by decide +kernel
theorem dX5_makeGreased_11 : decode cX5_makeGreased 11 = .ok (.getfield 270, 3) := by decide +kernel
theorem dX5_makeGreased_14 : decode cX5_makeGreased 14 = .ok (.invokevirtual 152, 3) := by decide +kernel
theorem dX5_makeGreased_17 : decode cX5_makeGreased 17 = .ok (.aload_n 1, 1) := by decide +kernel
theorem dX5_makeGreased_18 : decode cX5_makeGreased 18 = .ok (.aload_n 0, 1) := by decide +kernel
theorem dX5_makeGreased_19 : decode cX5_makeGreased 19 = .ok (.getfield 10, 3) := by decide +kernel
theorem dX5_makeGreased_22 : decode cX5_makeGreased 22 = .ok (.getfield 84, 3) := by decide +kernel
theorem dX5_makeGreased_25 : decode cX5_makeGreased 25 = .ok (.getfield 282, 3) := by decide +kernel
theorem dX5_makeGreased_28 : decode cX5_makeGreased 28 = .ok (.putfield 285, 3) := by decide +kernel
theorem dX5_makeGreased_31 : decode cX5_makeGreased 31 = .ok (.return_, 1) := by decide +kernel
theorem dX5_cheaperWay_0 : decode cX5_cheaperWay 0 = .ok (.aload_n 1, 1) := by decide +kernel
theorem dX5_cheaperWay_1 : decode cX5_cheaperWay 1 = .ok (.iload_n 2, 1) := by decide +kernel
theorem dX5_cheaperWay_2 : decode cX5_cheaperWay 2 = .ok (.iconst 1, 1) := by decide +kernel
theorem dX5_cheaperWay_3 : decode cX5_cheaperWay 3 = .ok (.iconst (-1), 1) := by decide +kernel
theorem dX5_cheaperWay_4 : decode cX5_cheaperWay 4 = .ok (.aload_n 0, 1) := by decide +kernel
theorem dX5_cheaperWay_5 : decode cX5_cheaperWay 5 = .ok (.getfield 10, 3) := by decide +kernel
theorem dX5_cheaperWay_8 : decode cX5_cheaperWay 8 = .ok (.getfield 84, 3) := by decide +kernel
theorem dX5_cheaperWay_11 : decode cX5_cheaperWay 11 = .ok (.invokevirtual 199, 3) := by decide +kernel
theorem dX5_cheaperWay_14 : decode cX5_cheaperWay 14 = .ok (.istore_n 3, 1) := by decide +kernel
theorem dX5_cheaperWay_15 : decode cX5_cheaperWay 15 = .ok (.aload_n 1, 1) := by decide +kernel
theorem dX5_cheaperWay_16 : decode cX5_cheaperWay 16 = .ok (.iload_n 2, 1) := by decide +kernel
theorem dX5_cheaperWay_17 : decode cX5_cheaperWay 17 = .ok (.iconst (-1), 1) := by decide +kernel
theorem dX5_cheaperWay_18 : decode cX5_cheaperWay 18 = .ok (.iconst (-1), 1) := by decide +kernel
theorem dX5_cheaperWay_19 : decode cX5_cheaperWay 19 = .ok (.aload_n 0, 1) := by decide +kernel
theorem dX5_cheaperWay_20 : decode cX5_cheaperWay 20 = .ok (.getfield 10, 3) := by decide +kernel
theorem dX5_cheaperWay_23 : decode cX5_cheaperWay 23 = .ok (.getfield 84, 3) := by decide +kernel
theorem dX5_cheaperWay_26 : decode cX5_cheaperWay 26 = .ok (.invokevirtual 199, 3) := by decide +kernel
theorem dX5_cheaperWay_29 : decode cX5_cheaperWay 29 = .ok (.istore 4, 2) := by decide +kernel
theorem dX5_cheaperWay_31 : decode cX5_cheaperWay 31 = .ok (.iload_n 3, 1) := by decide +kernel
theorem dX5_cheaperWay_32 : decode cX5_cheaperWay 32 = .ok (.iload 4, 2) := by decide +kernel
theorem dX5_cheaperWay_34 : decode cX5_cheaperWay 34 = .ok (.if_icmp .gt 7, 3) := by decide +kernel
theorem dX5_cheaperWay_37 : decode cX5_cheaperWay 37 = .ok (.iconst 1, 1) := by decide +kernel
theorem dX5_cheaperWay_38 : decode cX5_cheaperWay 38 = .ok (.goto 4, 3) := by decide +kernel
theorem dX5_cheaperWay_41 : decode cX5_cheaperWay 41 = .ok (.iconst (-1), 1) := by decide +kernel
theorem dX5_cheaperWay_42 : decode cX5_cheaperWay 42 = .ok (.ireturn, 1) := by decide +kernel
theorem dX5_codeAt_0 : decode cX5_codeAt 0 = .ok (.iload_n 1, 1) := by decide +kernel
theorem dX5_codeAt_1 : decode cX5_codeAt 1 = .ok (.ifCond .lt 21, 3) := by decide +kernel
theorem dX5_codeAt_4 : decode cX5_codeAt 4 = .ok (.iload_n 1, 1) := by decide +kernel
theorem dX5_codeAt_5 : decode cX5_codeAt 5 = .ok (.aload_n 0, 1) := by decide +kernel
theorem dX5_codeAt_6 : decode cX5_codeAt 6 = .ok (.getfield 37, 3) := by decide +kernel
theorem dX5_codeAt_9 : decode cX5_codeAt 9 = .ok (.arraylength, 1) := by decide +kernel
theorem dX5_codeAt_10 : decode cX5_codeAt 10 = .ok (.if_icmp .ge 12, 3) := by decide +kernel
theorem dX5_codeAt_13 : decode cX5_codeAt 13 = .ok (.aload_n 0, 1) := by decide +kernel
theorem dX5_codeAt_14 : decode cX5_codeAt 14 = .ok (.getfield 37, 3) := by decide +kernel
theorem dX5_codeAt_17 : decode cX5_codeAt 17 = .ok (.iload_n 1, 1) := by decide +kernel
theorem dX5_codeAt_18 : decode cX5_codeAt 18 = .ok (.iaload, 1) := by decide +kernel
theorem dX5_codeAt_19 : decode cX5_codeAt 19 = .ok (.goto 4, 3) := by decide +kernel
theorem dX5_codeAt_22 : decode cX5_codeAt 22 = .ok (.iconst 0, 1) := by decide +kernel
theorem dX5_codeAt_23 : decode cX5_codeAt 23 = .ok (.ireturn, 1) := by decide +kernel
theorem dX5_indexOfSyntaxError_0 : decode cX5_indexOfSyntaxError 0 = .ok (.aload_n 0, 1) := by decide +kernel
theorem dX5_indexOfSyntaxError_1 : decode cX5_indexOfSyntaxError 1 = .ok (.getfield 33, 3) := by decide +kernel
theorem dX5_indexOfSyntaxError_4 : decode cX5_indexOfSyntaxError 4 = .ok (.invokevirtual 288, 3) := by decide +kernel
theorem dX5_indexOfSyntaxError_7 : decode cX5_indexOfSyntaxError 7 = .ok (.iconst 0, 1) := by decide +kernel
theorem dX5_indexOfSyntaxError_8 : decode cX5_indexOfSyntaxError 8 = .ok (.istore_n 1, 1) := by decide +kernel
theorem dX5_indexOfSyntaxError_9 : decode cX5_indexOfSyntaxError 9 = .ok (.iload_n 1, 1) := by decide +kernel
theorem dX5_indexOfSyntaxError_10 : decode cX5_indexOfSyntaxError 10 = .ok (.aload_n 0, 1) := by decide +kernel
theorem dX5_indexOfSyntaxError_11 : decode cX5_indexOfSyntaxError 11 = .ok (.getfield 41, 3) := by decide +kernel
theorem dX5_indexOfSyntaxError_14 : decode cX5_indexOfSyntaxError 14 = .ok (.if_icmp .ge 26, 3) := by decide +kernel
theorem dX5_indexOfSyntaxError_17 : decode cX5_indexOfSyntaxError 17 = .ok (.aload_n 0, 1) := by decide +kernel
theorem dX5_indexOfSyntaxError_18 : decode cX5_indexOfSyntaxError 18 = .ok (.getfield 33, 3) := by decide +kernel
theorem dX5_indexOfSyntaxError_21 : decode cX5_indexOfSyntaxError 21 = .ok (.aload_n 0, 1) := by decide +kernel
theorem dX5_indexOfSyntaxError_22 : decode cX5_indexOfSyntaxError 22 = .ok (.iload_n 1, 1) := by decide +kernel
theorem dX5_indexOfSyntaxError_23 : decode cX5_indexOfSyntaxError 23 = .ok (.invokevirtual 244, 3) := by decide +kernel
theorem dX5_indexOfSyntaxError_26 : decode cX5_indexOfSyntaxError 26 = .ok (.invokevirtual 291, 3) := by decide +kernel
theorem dX5_indexOfSyntaxError_29 : decode cX5_indexOfSyntaxError 29 = .ok (.ifCond .ne 5, 3) := by decide +kernel
theorem dX5_indexOfSyntaxError_32 : decode cX5_indexOfSyntaxError 32 = .ok (.iload_n 1, 1) := by decide +kernel
theorem dX5_indexOfSyntaxError_33 : decode cX5_indexOfSyntaxError 33 = .ok (.ireturn, 1) := by decide +kernel
theorem dX5_indexOfSyntaxError_34 : decode cX5_indexOfSyntaxError 34 = .ok (.iinc 1 1, 3) := by decide +kernel
theorem dX5_indexOfSyntaxError_37 : decode cX5_indexOfSyntaxError 37 = .ok (.goto (-28), 3) := by decide +kernel
theorem dX5_indexOfSyntaxError_40 : decode cX5_indexOfSyntaxError 40 = .ok (.aload_n 0, 1) := by decide +kernel
theorem dX5_indexOfSyntaxError_41 : decode cX5_indexOfSyntaxError 41 = .ok (.getfield 41, 3) := by decide +kernel
theorem dX5_indexOfSyntaxError_44 : decode cX5_indexOfSyntaxError 44 = .ok (.ireturn, 1) := by decide +kernel
theorem dX5_isProgram_0 : decode cX5_isProgram 0 = .ok (.aload_n 0, 1) := by decide +kernel
theorem dX5_isProgram_1 : decode cX5_isProgram 1 = .ok (.invokevirtual 162, 3) := by decide +kernel
theorem dX5_isProgram_4 : decode cX5_isProgram 4 = .ok (.aload_n 0, 1) := by decide +kernel
theorem dX5_isProgram_5 : decode cX5_isProgram 5 = .ok (.getfield 41, 3) := by decide +kernel
theorem dX5_isProgram_8 : decode cX5_isProgram 8 = .ok (.if_icmp .ne 17, 3) := by decide +kernel
theorem dX5_isProgram_11 : decode cX5_isProgram 11 = .ok (.aload_n 0, 1) := by decide +kernel
theorem dX5_isProgram_12 : decode cX5_isProgram 12 = .ok (.getfield 33, 3) := by decide +kernel
theorem dX5_isProgram_15 : decode cX5_isProgram 15 = .ok (.invokevirtual 295, 3) := by decide +kernel
theorem dX5_isProgram_18 : decode cX5_isProgram 18 = .ok (.ifCond .eq 7, 3) := by decide +kernel
theorem dX5_isProgram_21 : decode cX5_isProgram 21 = .ok (.iconst 1, 1) := by decide +kernel
theorem dX5_isProgram_22 : decode cX5_isProgram 22 = .ok (.goto 4, 3) := by decide +kernel
theorem dX5_isProgram_25 : decode cX5_isProgram 25 = .ok (.iconst 0, 1) := by decide +kernel
theorem dX5_isProgram_26 : decode cX5_isProgram 26 = .ok (.ireturn, 1) := by decide +kernel
theorem dX5_carryOutBuffer_0 : decode cX5_carryOutBuffer 0 = .ok (.aload_n 0, 1) := by decide +kernel
theorem dX5_carryOutBuffer_1 : decode cX5_carryOutBuffer 1 = .ok (.getfield 33, 3) := by decide +kernel
theorem dX5_carryOutBuffer_4 : decode cX5_carryOutBuffer 4 = .ok (.invokevirtual 288, 3) := by decide +kernel
theorem dX5_carryOutBuffer_7 : decode cX5_carryOutBuffer 7 = .ok (.iconst 0, 1) := by decide +kernel
theorem dX5_carryOutBuffer_8 : decode cX5_carryOutBuffer 8 = .ok (.istore_n 1, 1) := by decide +kernel
theorem dX5_carryOutBuffer_9 : decode cX5_carryOutBuffer 9 = .ok (.iconst 0, 1) := by decide +kernel
theorem dX5_carryOutBuffer_10 : decode cX5_carryOutBuffer 10 = .ok (.istore_n 2, 1) := by decide +kernel
theorem dX5_carryOutBuffer_11 : decode cX5_carryOutBuffer 11 = .ok (.iload_n 2, 1) := by decide +kernel
theorem dX5_carryOutBuffer_12 : decode cX5_carryOutBuffer 12 = .ok (.aload_n 0, 1) := by decide +kernel
theorem dX5_carryOutBuffer_13 : decode cX5_carryOutBuffer 13 = .ok (.getfield 41, 3) := by decide +kernel
theorem dX5_carryOutBuffer_16 : decode cX5_carryOutBuffer 16 = .ok (.if_icmp .gt 56, 3) := by decide +kernel
theorem dX5_carryOutBuffer_19 : decode cX5_carryOutBuffer 19 = .ok (.iload_n 2, 1) := by decide +kernel
theorem dX5_carryOutBuffer_20 : decode cX5_carryOutBuffer 20 = .ok (.aload_n 0, 1) := by decide +kernel
theorem dX5_carryOutBuffer_21 : decode cX5_carryOutBuffer 21 = .ok (.getfield 41, 3) := by decide +kernel
theorem dX5_carryOutBuffer_24 : decode cX5_carryOutBuffer 24 = .ok (.if_icmp .ge 11, 3) := by decide +kernel
theorem dX5_carryOutBuffer_27 : decode cX5_carryOutBuffer 27 = .ok (.aload_n 0, 1) := by decide +kernel
theorem dX5_carryOutBuffer_28 : decode cX5_carryOutBuffer 28 = .ok (.iload_n 2, 1) := by decide +kernel
theorem dX5_carryOutBuffer_29 : decode cX5_carryOutBuffer 29 = .ok (.invokevirtual 244, 3) := by decide +kernel
theorem dX5_carryOutBuffer_32 : decode cX5_carryOutBuffer 32 = .ok (.goto 5, 3) := by decide +kernel
theorem dX5_carryOutBuffer_35 : decode cX5_carryOutBuffer 35 = .ok (.bipush 59, 2) := by decide +kernel
theorem dX5_carryOutBuffer_37 : decode cX5_carryOutBuffer 37 = .ok (.istore_n 3, 1) := by decide +kernel
theorem dX5_carryOutBuffer_38 : decode cX5_carryOutBuffer 38 = .ok (.iload_n 3, 1) := by decide +kernel
theorem dX5_carryOutBuffer_39 : decode cX5_carryOutBuffer 39 = .ok (.bipush 59, 2) := by decide +kernel
theorem dX5_carryOutBuffer_41 : decode cX5_carryOutBuffer 41 = .ok (.if_icmp .ne 16, 3) := by decide +kernel
theorem dX5_carryOutBuffer_44 : decode cX5_carryOutBuffer 44 = .ok (.aload_n 0, 1) := by decide +kernel
theorem dX5_carryOutBuffer_45 : decode cX5_carryOutBuffer 45 = .ok (.invokevirtual 298, 3) := by decide +kernel
theorem dX5_carryOutBuffer_48 : decode cX5_carryOutBuffer 48 = .ok (.ifCond .ne 6, 3) := by decide +kernel
theorem dX5_carryOutBuffer_51 : decode cX5_carryOutBuffer 51 = .ok (.goto 21, 3) := by decide +kernel
theorem dX5_carryOutBuffer_54 : decode cX5_carryOutBuffer 54 = .ok (.iinc 1 1, 3) := by decide +kernel
theorem dX5_carryOutBuffer_57 : decode cX5_carryOutBuffer 57 = .ok (.aload_n 0, 1) := by decide +kernel
theorem dX5_carryOutBuffer_58 : decode cX5_carryOutBuffer 58 = .ok (.getfield 33, 3) := by decide +kernel
theorem dX5_carryOutBuffer_61 : decode cX5_carryOutBuffer 61 = .ok (.iload_n 3, 1) := by decide +kernel
theorem dX5_carryOutBuffer_62 : decode cX5_carryOutBuffer 62 = .ok (.invokevirtual 291, 3) := by decide +kernel
theorem dX5_carryOutBuffer_65 : decode cX5_carryOutBuffer 65 = .ok (.pop, 1) := by decide +kernel
theorem dX5_carryOutBuffer_66 : decode cX5_carryOutBuffer 66 = .ok (.iinc 2 1, 3) := by decide +kernel
theorem dX5_carryOutBuffer_69 : decode cX5_carryOutBuffer 69 = .ok (.goto (-58), 3) := by decide +kernel
theorem dX5_carryOutBuffer_72 : decode cX5_carryOutBuffer 72 = .ok (.iload_n 1, 1) := by decide +kernel
theorem dX5_carryOutBuffer_73 : decode cX5_carryOutBuffer 73 = .ok (.ireturn, 1) := by decide +kernel
theorem dX5_carryOutCommand_0 : decode cX5_carryOutCommand 0 = .ok (.aload_n 0, 1) := by decide +kernel
theorem dX5_carryOutCommand_1 : decode cX5_carryOutCommand 1 = .ok (.getfield 10, 3) := by decide +kernel
theorem dX5_carryOutCommand_4 : decode cX5_carryOutCommand 4 = .ok (.aload_n 0, 1) := by decide +kernel
theorem dX5_carryOutCommand_5 : decode cX5_carryOutCommand 5 = .ok (.getfield 33, 3) := by decide +kernel
theorem dX5_carryOutCommand_8 : decode cX5_carryOutCommand 8 = .ok (.getfield 301, 3) := by decide +kernel
theorem dX5_carryOutCommand_11 : decode cX5_carryOutCommand 11 = .ok (.invokevirtual 226, 3) := by decide +kernel
theorem dX5_carryOutCommand_14 : decode cX5_carryOutCommand 14 = .ok (.astore_n 1, 1) := by decide +kernel
theorem dX5_carryOutCommand_15 : decode cX5_carryOutCommand 15 = .ok (.aload_n 1, 1) := by decide +kernel
theorem dX5_carryOutCommand_16 : decode cX5_carryOutCommand 16 = .ok (.ifnonnull 5, 3) := by decide +kernel
theorem dX5_carryOutCommand_19 : decode cX5_carryOutCommand 19 = .ok (.iconst 0, 1) := by decide +kernel
theorem dX5_carryOutCommand_20 : decode cX5_carryOutCommand 20 = .ok (.ireturn, 1) := by decide +kernel
theorem dX5_carryOutCommand_21 : decode cX5_carryOutCommand 21 = .ok (.aload_n 0, 1) := by decide +kernel
theorem dX5_carryOutCommand_22 : decode cX5_carryOutCommand 22 = .ok (.getfield 33, 3) := by decide +kernel
theorem dX5_carryOutCommand_25 : decode cX5_carryOutCommand 25 = .ok (.getfield 304, 3) := by decide +kernel
theorem dX5_carryOutCommand_28 : decode cX5_carryOutCommand 28 = .ok (.lookupswitch 136 #[(43, 44), (45, 66), (61, 88), (103, 120)], 44) := by decide +kernel
theorem dX5_carryOutCommand_72 : decode cX5_carryOutCommand 72 = .ok (.aload_n 0, 1) := by decide +kernel
theorem dX5_carryOutCommand_73 : decode cX5_carryOutCommand 73 = .ok (.aload_n 1, 1) := by decide +kernel
theorem dX5_carryOutCommand_74 : decode cX5_carryOutCommand 74 = .ok (.iconst 1, 1) := by decide +kernel
theorem dX5_carryOutCommand_75 : decode cX5_carryOutCommand 75 = .ok (.aload_n 0, 1) := by decide +kernel
theorem dX5_carryOutCommand_76 : decode cX5_carryOutCommand 76 = .ok (.getfield 33, 3) := by decide +kernel
theorem dX5_carryOutCommand_79 : decode cX5_carryOutCommand 79 = .ok (.getfield 307, 3) := by decide +kernel
theorem dX5_carryOutCommand_82 : decode cX5_carryOutCommand 82 = .ok (.invokevirtual 110, 3) := by decide +kernel
theorem dX5_carryOutCommand_85 : decode cX5_carryOutCommand 85 = .ok (.ifCond .le 7, 3) := by decide +kernel
theorem dX5_carryOutCommand_88 : decode cX5_carryOutCommand 88 = .ok (.iconst 1, 1) := by decide +kernel
theorem dX5_carryOutCommand_89 : decode cX5_carryOutCommand 89 = .ok (.goto 4, 3) := by decide +kernel
theorem dX5_carryOutCommand_92 : decode cX5_carryOutCommand 92 = .ok (.iconst 0, 1) := by decide +kernel
theorem dX5_carryOutCommand_93 : decode cX5_carryOutCommand 93 = .ok (.ireturn, 1) := by decide +kernel
theorem dX5_carryOutCommand_94 : decode cX5_carryOutCommand 94 = .ok (.aload_n 0, 1) := by decide +kernel
theorem dX5_carryOutCommand_95 : decode cX5_carryOutCommand 95 = .ok (.aload_n 1, 1) := by decide +kernel
theorem dX5_carryOutCommand_96 : decode cX5_carryOutCommand 96 = .ok (.iconst (-1), 1) := by decide +kernel
theorem dX5_carryOutCommand_97 : decode cX5_carryOutCommand 97 = .ok (.aload_n 0, 1) := by decide +kernel
theorem dX5_carryOutCommand_98 : decode cX5_carryOutCommand 98 = .ok (.getfield 33, 3) := by decide +kernel
theorem dX5_carryOutCommand_101 : decode cX5_carryOutCommand 101 = .ok (.getfield 307, 3) := by decide +kernel
theorem dX5_carryOutCommand_104 : decode cX5_carryOutCommand 104 = .ok (.invokevirtual 110, 3) := by decide +kernel
theorem dX5_carryOutCommand_107 : decode cX5_carryOutCommand 107 = .ok (.ifCond .le 7, 3) := by decide +kernel
theorem dX5_carryOutCommand_110 : decode cX5_carryOutCommand 110 = .ok (.iconst 1, 1) := by decide +kernel
theorem dX5_carryOutCommand_111 : decode cX5_carryOutCommand 111 = .ok (.goto 4, 3) := by decide +kernel
theorem dX5_carryOutCommand_114 : decode cX5_carryOutCommand 114 = .ok (.iconst 0, 1) := by decide +kernel
theorem dX5_carryOutCommand_115 : decode cX5_carryOutCommand 115 = .ok (.ireturn, 1) := by decide +kernel
theorem dX5_carryOutCommand_116 : decode cX5_carryOutCommand 116 = .ok (.aload_n 0, 1) := by decide +kernel
theorem dX5_carryOutCommand_117 : decode cX5_carryOutCommand 117 = .ok (.aload_n 1, 1) := by decide +kernel
theorem dX5_carryOutCommand_118 : decode cX5_carryOutCommand 118 = .ok (.aload_n 0, 1) := by decide +kernel
theorem dX5_carryOutCommand_119 : decode cX5_carryOutCommand 119 = .ok (.getfield 33, 3) := by decide +kernel
theorem dX5_carryOutCommand_122 : decode cX5_carryOutCommand 122 = .ok (.getfield 307, 3) := by decide +kernel
theorem dX5_carryOutCommand_125 : decode cX5_carryOutCommand 125 = .ok (.invokevirtual 117, 3) := by decide +kernel
theorem dX5_carryOutCommand_128 : decode cX5_carryOutCommand 128 = .ok (.ifCond .ne 5, 3) := by decide +kernel
theorem dX5_carryOutCommand_131 : decode cX5_carryOutCommand 131 = .ok (.iconst 0, 1) := by decide +kernel
theorem dX5_carryOutCommand_132 : decode cX5_carryOutCommand 132 = .ok (.ireturn, 1) := by decide +kernel
theorem dX5_carryOutCommand_133 : decode cX5_carryOutCommand 133 = .ok (.aload_n 0, 1) := by decide +kernel
theorem dX5_carryOutCommand_134 : decode cX5_carryOutCommand 134 = .ok (.aload_n 1, 1) := by decide +kernel
theorem dX5_carryOutCommand_135 : decode cX5_carryOutCommand 135 = .ok (.aload_n 0, 1) := by decide +kernel
theorem dX5_carryOutCommand_136 : decode cX5_carryOutCommand 136 = .ok (.getfield 33, 3) := by decide +kernel
theorem dX5_carryOutCommand_139 : decode cX5_carryOutCommand 139 = .ok (.getfield 307, 3) := by decide +kernel
theorem dX5_carryOutCommand_142 : decode cX5_carryOutCommand 142 = .ok (.invokevirtual 120, 3) := by decide +kernel
theorem dX5_carryOutCommand_145 : decode cX5_carryOutCommand 145 = .ok (.pop, 1) := by decide +kernel
theorem dX5_carryOutCommand_146 : decode cX5_carryOutCommand 146 = .ok (.iconst 1, 1) := by decide +kernel
theorem dX5_carryOutCommand_147 : decode cX5_carryOutCommand 147 = .ok (.ireturn, 1) := by decide +kernel
theorem dX5_carryOutCommand_148 : decode cX5_carryOutCommand 148 = .ok (.aload_n 0, 1) := by decide +kernel
theorem dX5_carryOutCommand_149 : decode cX5_carryOutCommand 149 = .ok (.invokevirtual 131, 3) := by decide +kernel
theorem dX5_carryOutCommand_152 : decode cX5_carryOutCommand 152 = .ok (.ifCond .ne 5, 3) := by decide +kernel
theorem dX5_carryOutCommand_155 : decode cX5_carryOutCommand 155 = .ok (.iconst 0, 1) := by decide +kernel
theorem dX5_carryOutCommand_156 : decode cX5_carryOutCommand 156 = .ok (.ireturn, 1) := by decide +kernel
theorem dX5_carryOutCommand_157 : decode cX5_carryOutCommand 157 = .ok (.aload_n 0, 1) := by decide +kernel
theorem dX5_carryOutCommand_158 : decode cX5_carryOutCommand 158 = .ok (.aload_n 1, 1) := by decide +kernel
theorem dX5_carryOutCommand_159 : decode cX5_carryOutCommand 159 = .ok (.invokevirtual 137, 3) := by decide +kernel
theorem dX5_carryOutCommand_162 : decode cX5_carryOutCommand 162 = .ok (.iconst 1, 1) := by decide +kernel
theorem dX5_carryOutCommand_163 : decode cX5_carryOutCommand 163 = .ok (.ireturn, 1) := by decide +kernel
theorem dX5_carryOutCommand_164 : decode cX5_carryOutCommand 164 = .ok (.aload_n 0, 1) := by decide +kernel
theorem dX5_carryOutCommand_165 : decode cX5_carryOutCommand 165 = .ok (.aload_n 1, 1) := by decide +kernel
theorem dX5_carryOutCommand_166 : decode cX5_carryOutCommand 166 = .ok (.invokevirtual 127, 3) := by decide +kernel
theorem dX5_carryOutCommand_169 : decode cX5_carryOutCommand 169 = .ok (.pop, 1) := by decide +kernel
theorem dX5_carryOutCommand_170 : decode cX5_carryOutCommand 170 = .ok (.iconst 1, 1) := by decide +kernel
theorem dX5_carryOutCommand_171 : decode cX5_carryOutCommand 171 = .ok (.ireturn, 1) := by decide +kernel
theorem dX5_countOf_0 : decode cX5_countOf 0 = .ok (.iload_n 1, 1) := by decide +kernel
theorem dX5_countOf_1 : decode cX5_countOf 1 = .ok (.tableswitch 127 0 7 #[47, 55, 65, 75, 85, 93, 101, 119], 47) := by decide +kernel
theorem dX5_countOf_48 : decode cX5_countOf 48 = .ok (.aload_n 0, 1) := by decide +kernel
theorem dX5_countOf_49 : decode cX5_countOf 49 = .ok (.getfield 10, 3) := by decide +kernel
theorem dX5_countOf_52 : decode cX5_countOf 52 = .ok (.getfield 52, 3) := by decide +kernel
theorem dX5_countOf_55 : decode cX5_countOf 55 = .ok (.ireturn, 1) := by decide +kernel
theorem dX5_countOf_56 : decode cX5_countOf 56 = .ok (.aload_n 0, 1) := by decide +kernel
theorem dX5_countOf_57 : decode cX5_countOf 57 = .ok (.getfield 10, 3) := by decide +kernel
theorem dX5_countOf_60 : decode cX5_countOf 60 = .ok (.bipush 6, 2) := by decide +kernel
theorem dX5_countOf_62 : decode cX5_countOf 62 = .ok (.invokevirtual 217, 3) := by decide +kernel
theorem dX5_countOf_65 : decode cX5_countOf 65 = .ok (.ireturn, 1) := by decide +kernel
theorem dX5_countOf_66 : decode cX5_countOf 66 = .ok (.aload_n 0, 1) := by decide +kernel
theorem dX5_countOf_67 : decode cX5_countOf 67 = .ok (.getfield 10, 3) := by decide +kernel
theorem dX5_countOf_70 : decode cX5_countOf 70 = .ok (.bipush 8, 2) := by decide +kernel
theorem dX5_countOf_72 : decode cX5_countOf 72 = .ok (.invokevirtual 217, 3) := by decide +kernel
theorem dX5_countOf_75 : decode cX5_countOf 75 = .ok (.ireturn, 1) := by decide +kernel
theorem dX5_countOf_76 : decode cX5_countOf 76 = .ok (.aload_n 0, 1) := by decide +kernel
theorem dX5_countOf_77 : decode cX5_countOf 77 = .ok (.getfield 10, 3) := by decide +kernel
theorem dX5_countOf_80 : decode cX5_countOf 80 = .ok (.bipush 7, 2) := by decide +kernel
theorem dX5_countOf_82 : decode cX5_countOf 82 = .ok (.invokevirtual 217, 3) := by decide +kernel
theorem dX5_countOf_85 : decode cX5_countOf 85 = .ok (.ireturn, 1) := by decide +kernel
theorem dX5_countOf_86 : decode cX5_countOf 86 = .ok (.aload_n 0, 1) := by decide +kernel
theorem dX5_countOf_87 : decode cX5_countOf 87 = .ok (.getfield 10, 3) := by decide +kernel
theorem dX5_countOf_90 : decode cX5_countOf 90 = .ok (.getfield 310, 3) := by decide +kernel
theorem dX5_countOf_93 : decode cX5_countOf 93 = .ok (.ireturn, 1) := by decide +kernel
theorem dX5_countOf_94 : decode cX5_countOf 94 = .ok (.aload_n 0, 1) := by decide +kernel
theorem dX5_countOf_95 : decode cX5_countOf 95 = .ok (.getfield 10, 3) := by decide +kernel
theorem dX5_countOf_98 : decode cX5_countOf 98 = .ok (.invokevirtual 313, 3) := by decide +kernel
theorem dX5_countOf_101 : decode cX5_countOf 101 = .ok (.ireturn, 1) := by decide +kernel
theorem dX5_countOf_102 : decode cX5_countOf 102 = .ok (.aload_n 0, 1) := by decide +kernel
theorem dX5_countOf_103 : decode cX5_countOf 103 = .ok (.getfield 10, 3) := by decide +kernel
theorem dX5_countOf_106 : decode cX5_countOf 106 = .ok (.aload_n 0, 1) := by decide +kernel
theorem dX5_countOf_107 : decode cX5_countOf 107 = .ok (.getfield 10, 3) := by decide +kernel
theorem dX5_countOf_110 : decode cX5_countOf 110 = .ok (.getfield 84, 3) := by decide +kernel
theorem dX5_countOf_113 : decode cX5_countOf 113 = .ok (.getfield 316, 3) := by decide +kernel
theorem dX5_countOf_116 : decode cX5_countOf 116 = .ok (.invokevirtual 319, 3) := by decide +kernel
theorem dX5_countOf_119 : decode cX5_countOf 119 = .ok (.ireturn, 1) := by decide +kernel
theorem dX5_countOf_120 : decode cX5_countOf 120 = .ok (.aload_n 0, 1) := by decide +kernel
theorem dX5_countOf_121 : decode cX5_countOf 121 = .ok (.getfield 10, 3) := by decide +kernel
theorem dX5_countOf_124 : decode cX5_countOf 124 = .ok (.invokevirtual 322, 3) := by decide +kernel
theorem dX5_countOf_127 : decode cX5_countOf 127 = .ok (.ireturn, 1) := by decide +kernel
theorem dX5_countOf_128 : decode cX5_countOf 128 = .ok (.aload_n 0, 1) := by decide +kernel
theorem dX5_countOf_129 : decode cX5_countOf 129 = .ok (.getfield 19, 3) := by decide +kernel
theorem dX5_countOf_132 : decode cX5_countOf 132 = .ok (.getfield 174, 3) := by decide +kernel
theorem dX5_countOf_135 : decode cX5_countOf 135 = .ok (.ireturn, 1) := by decide +kernel
theorem dX5_turnAndSlip_0 : decode cX5_turnAndSlip 0 = .ok (.aload_n 1, 1) := by decide +kernel
theorem dX5_turnAndSlip_1 : decode cX5_turnAndSlip 1 = .ok (.iload_n 2, 1) := by decide +kernel
theorem dX5_turnAndSlip_2 : decode cX5_turnAndSlip 2 = .ok (.invokevirtual 325, 3) := by decide +kernel
theorem dX5_turnAndSlip_5 : decode cX5_turnAndSlip 5 = .ok (.ifCond .ne 5, 3) := by decide +kernel
theorem dX5_turnAndSlip_8 : decode cX5_turnAndSlip 8 = .ok (.iconst 0, 1) := by decide +kernel
theorem dX5_turnAndSlip_9 : decode cX5_turnAndSlip 9 = .ok (.ireturn, 1) := by decide +kernel
theorem dX5_turnAndSlip_10 : decode cX5_turnAndSlip 10 = .ok (.aload_n 1, 1) := by decide +kernel
theorem dX5_turnAndSlip_11 : decode cX5_turnAndSlip 11 = .ok (.aload_n 1, 1) := by decide +kernel
theorem dX5_turnAndSlip_12 : decode cX5_turnAndSlip 12 = .ok (.getfield 328, 3) := by decide +kernel
theorem dX5_turnAndSlip_15 : decode cX5_turnAndSlip 15 = .ok (.iload_n 2, 1) := by decide +kernel
theorem dX5_turnAndSlip_16 : decode cX5_turnAndSlip 16 = .ok (.invokestatic 331, 3) := by decide +kernel
theorem dX5_turnAndSlip_19 : decode cX5_turnAndSlip 19 = .ok (.invokevirtual 144, 3) := by decide +kernel
theorem dX5_turnAndSlip_22 : decode cX5_turnAndSlip 22 = .ok (.istore_n 3, 1) := by decide +kernel
theorem dX5_turnAndSlip_23 : decode cX5_turnAndSlip 23 = .ok (.iload_n 3, 1) := by decide +kernel
theorem dX5_turnAndSlip_24 : decode cX5_turnAndSlip 24 = .ok (.aload_n 0, 1) := by decide +kernel
theorem dX5_turnAndSlip_25 : decode cX5_turnAndSlip 25 = .ok (.getfield 10, 3) := by decide +kernel
theorem dX5_turnAndSlip_28 : decode cX5_turnAndSlip 28 = .ok (.getfield 84, 3) := by decide +kernel
theorem dX5_turnAndSlip_31 : decode cX5_turnAndSlip 31 = .ok (.getfield 316, 3) := by decide +kernel
theorem dX5_turnAndSlip_34 : decode cX5_turnAndSlip 34 = .ok (.if_icmp .lt 7, 3) := by decide +kernel
theorem dX5_turnAndSlip_37 : decode cX5_turnAndSlip 37 = .ok (.iconst 2, 1) := by decide +kernel
theorem dX5_turnAndSlip_38 : decode cX5_turnAndSlip 38 = .ok (.goto 4, 3) := by decide +kernel
theorem dX5_turnAndSlip_41 : decode cX5_turnAndSlip 41 = .ok (.iconst 1, 1) := by decide +kernel
theorem dX5_turnAndSlip_42 : decode cX5_turnAndSlip 42 = .ok (.ireturn, 1) := by decide +kernel
theorem dX5_homingFact_0 : decode cX5_homingFact 0 = .ok (.aload_n 0, 1) := by decide +kernel
theorem dX5_homingFact_1 : decode cX5_homingFact 1 = .ok (.getfield 26, 3) := by decide +kernel
theorem dX5_homingFact_4 : decode cX5_homingFact 4 = .ok (.aload_n 1, 1) := by decide +kernel
theorem dX5_homingFact_5 : decode cX5_homingFact 5 = .ok (.invokevirtual 335, 3) := by decide +kernel
theorem dX5_homingFact_8 : decode cX5_homingFact 8 = .ok (.aload_n 0, 1) := by decide +kernel
theorem dX5_homingFact_9 : decode cX5_homingFact 9 = .ok (.getfield 26, 3) := by decide +kernel
theorem dX5_homingFact_12 : decode cX5_homingFact 12 = .ok (.aload_n 0, 1) := by decide +kernel
theorem dX5_homingFact_13 : decode cX5_homingFact 13 = .ok (.getfield 10, 3) := by decide +kernel
theorem dX5_homingFact_16 : decode cX5_homingFact 16 = .ok (.getfield 52, 3) := by decide +kernel
theorem dX5_homingFact_19 : decode cX5_homingFact 19 = .ok (.aload_n 0, 1) := by decide +kernel
theorem dX5_homingFact_20 : decode cX5_homingFact 20 = .ok (.getfield 10, 3) := by decide +kernel
theorem dX5_homingFact_23 : decode cX5_homingFact 23 = .ok (.getfield 84, 3) := by decide +kernel
theorem dX5_homingFact_26 : decode cX5_homingFact 26 = .ok (.invokevirtual 280, 3) := by decide +kernel
theorem dX5_homingFact_29 : decode cX5_homingFact 29 = .ok (.istore_n 3, 1) := by decide +kernel
theorem dX5_homingFact_30 : decode cX5_homingFact 30 = .ok (.iload_n 2, 1) := by decide +kernel
theorem dX5_homingFact_31 : decode cX5_homingFact 31 = .ok (.lookupswitch 40 #[(0, 25), (1, 38)], 25) := by decide +kernel
theorem dX5_homingFact_56 : decode cX5_homingFact 56 = .ok (.aload_n 0, 1) := by decide +kernel
theorem dX5_homingFact_57 : decode cX5_homingFact 57 = .ok (.getfield 26, 3) := by decide +kernel
theorem dX5_homingFact_60 : decode cX5_homingFact 60 = .ok (.getfield 124, 3) := by decide +kernel
theorem dX5_homingFact_63 : decode cX5_homingFact 63 = .ok (.aload_n 1, 1) := by decide +kernel
theorem dX5_homingFact_64 : decode cX5_homingFact 64 = .ok (.getfield 124, 3) := by decide +kernel
theorem dX5_homingFact_67 : decode cX5_homingFact 67 = .ok (.isub, 1) := by decide +kernel
theorem dX5_homingFact_68 : decode cX5_homingFact 68 = .ok (.ireturn, 1) := by decide +kernel
theorem dX5_homingFact_69 : decode cX5_homingFact 69 = .ok (.iload_n 3, 1) := by decide +kernel
theorem dX5_homingFact_70 : decode cX5_homingFact 70 = .ok (.ireturn, 1) := by decide +kernel
theorem dX5_homingFact_71 : decode cX5_homingFact 71 = .ok (.aload_n 0, 1) := by decide +kernel
theorem dX5_homingFact_72 : decode cX5_homingFact 72 = .ok (.getfield 26, 3) := by decide +kernel
theorem dX5_homingFact_75 : decode cX5_homingFact 75 = .ok (.getfield 277, 3) := by decide +kernel
theorem dX5_homingFact_78 : decode cX5_homingFact 78 = .ok (.aload_n 1, 1) := by decide +kernel
theorem dX5_homingFact_79 : decode cX5_homingFact 79 = .ok (.getfield 277, 3) := by decide +kernel
theorem dX5_homingFact_82 : decode cX5_homingFact 82 = .ok (.isub, 1) := by decide +kernel
theorem dX5_homingFact_83 : decode cX5_homingFact 83 = .ok (.ireturn, 1) := by decide +kernel
theorem dX5_reachOf_0 : decode cX5_reachOf 0 = .ok (.aload_n 0, 1) := by decide +kernel
theorem dX5_reachOf_1 : decode cX5_reachOf 1 = .ok (.getfield 26, 3) := by decide +kernel
theorem dX5_reachOf_4 : decode cX5_reachOf 4 = .ok (.aload_n 1, 1) := by decide +kernel
theorem dX5_reachOf_5 : decode cX5_reachOf 5 = .ok (.invokevirtual 335, 3) := by decide +kernel
theorem dX5_reachOf_8 : decode cX5_reachOf 8 = .ok (.aload_n 0, 1) := by decide +kernel
theorem dX5_reachOf_9 : decode cX5_reachOf 9 = .ok (.getfield 10, 3) := by decide +kernel
theorem dX5_reachOf_12 : decode cX5_reachOf 12 = .ok (.getfield 52, 3) := by decide +kernel
theorem dX5_reachOf_15 : decode cX5_reachOf 15 = .ok (.istore_n 3, 1) := by decide +kernel
theorem dX5_reachOf_16 : decode cX5_reachOf 16 = .ok (.iconst 0, 1) := by decide +kernel
theorem dX5_reachOf_17 : decode cX5_reachOf 17 = .ok (.istore 4, 2) := by decide +kernel
theorem dX5_reachOf_19 : decode cX5_reachOf 19 = .ok (.iload 4, 2) := by decide +kernel
theorem dX5_reachOf_21 : decode cX5_reachOf 21 = .ok (.bipush 100, 2) := by decide +kernel
theorem dX5_reachOf_23 : decode cX5_reachOf 23 = .ok (.if_icmp .ge 40, 3) := by decide +kernel
theorem dX5_reachOf_26 : decode cX5_reachOf 26 = .ok (.aload_n 0, 1) := by decide +kernel
theorem dX5_reachOf_27 : decode cX5_reachOf 27 = .ok (.getfield 26, 3) := by decide +kernel
theorem dX5_reachOf_30 : decode cX5_reachOf 30 = .ok (.iload_n 2, 1) := by decide +kernel
theorem dX5_reachOf_31 : decode cX5_reachOf 31 = .ok (.iload_n 3, 1) := by decide +kernel
theorem dX5_reachOf_32 : decode cX5_reachOf 32 = .ok (.aload_n 0, 1) := by decide +kernel
theorem dX5_reachOf_33 : decode cX5_reachOf 33 = .ok (.getfield 10, 3) := by decide +kernel
theorem dX5_reachOf_36 : decode cX5_reachOf 36 = .ok (.getfield 84, 3) := by decide +kernel
theorem dX5_reachOf_39 : decode cX5_reachOf 39 = .ok (.invokevirtual 273, 3) := by decide +kernel
theorem dX5_reachOf_42 : decode cX5_reachOf 42 = .ok (.istore 5, 2) := by decide +kernel
theorem dX5_reachOf_44 : decode cX5_reachOf 44 = .ok (.iload 5, 2) := by decide +kernel
theorem dX5_reachOf_46 : decode cX5_reachOf 46 = .ok (.ifCond .ne 6, 3) := by decide +kernel
theorem dX5_reachOf_49 : decode cX5_reachOf 49 = .ok (.goto 14, 3) := by decide +kernel
theorem dX5_reachOf_52 : decode cX5_reachOf 52 = .ok (.iload_n 3, 1) := by decide +kernel
theorem dX5_reachOf_53 : decode cX5_reachOf 53 = .ok (.iload 5, 2) := by decide +kernel
theorem dX5_reachOf_55 : decode cX5_reachOf 55 = .ok (.isub, 1) := by decide +kernel
theorem dX5_reachOf_56 : decode cX5_reachOf 56 = .ok (.istore_n 3, 1) := by decide +kernel
theorem dX5_reachOf_57 : decode cX5_reachOf 57 = .ok (.iinc 4 1, 3) := by decide +kernel
theorem dX5_reachOf_60 : decode cX5_reachOf 60 = .ok (.goto (-41), 3) := by decide +kernel
theorem dX5_reachOf_63 : decode cX5_reachOf 63 = .ok (.iload 4, 2) := by decide +kernel
theorem dX5_reachOf_65 : decode cX5_reachOf 65 = .ok (.ireturn, 1) := by decide +kernel
theorem dX5_worstTooth_0 : decode cX5_worstTooth 0 = .ok (.iconst (-1), 1) := by decide +kernel
theorem dX5_worstTooth_1 : decode cX5_worstTooth 1 = .ok (.istore_n 3, 1) := by decide +kernel
theorem dX5_worstTooth_2 : decode cX5_worstTooth 2 = .ok (.aload_n 0, 1) := by decide +kernel
theorem dX5_worstTooth_3 : decode cX5_worstTooth 3 = .ok (.aload_n 1, 1) := by decide +kernel
theorem dX5_worstTooth_4 : decode cX5_worstTooth 4 = .ok (.iload_n 2, 1) := by decide +kernel
theorem dX5_worstTooth_5 : decode cX5_worstTooth 5 = .ok (.iconst (-1), 1) := by decide +kernel
theorem dX5_worstTooth_6 : decode cX5_worstTooth 6 = .ok (.invokevirtual 338, 3) := by decide +kernel
theorem dX5_worstTooth_9 : decode cX5_worstTooth 9 = .ok (.istore 4, 2) := by decide +kernel
theorem dX5_worstTooth_11 : decode cX5_worstTooth 11 = .ok (.iconst 0, 1) := by decide +kernel
theorem dX5_worstTooth_12 : decode cX5_worstTooth 12 = .ok (.istore 5, 2) := by decide +kernel
theorem dX5_worstTooth_14 : decode cX5_worstTooth 14 = .ok (.iload 5, 2) := by decide +kernel
theorem dX5_worstTooth_16 : decode cX5_worstTooth 16 = .ok (.bipush 24, 2) := by decide +kernel
theorem dX5_worstTooth_18 : decode cX5_worstTooth 18 = .ok (.if_icmp .ge 33, 3) := by decide +kernel
theorem dX5_worstTooth_21 : decode cX5_worstTooth 21 = .ok (.aload_n 0, 1) := by decide +kernel
theorem dX5_worstTooth_22 : decode cX5_worstTooth 22 = .ok (.aload_n 1, 1) := by decide +kernel
theorem dX5_worstTooth_23 : decode cX5_worstTooth 23 = .ok (.iload_n 2, 1) := by decide +kernel
theorem dX5_worstTooth_24 : decode cX5_worstTooth 24 = .ok (.iload 5, 2) := by decide +kernel
theorem dX5_worstTooth_26 : decode cX5_worstTooth 26 = .ok (.invokevirtual 338, 3) := by decide +kernel
theorem dX5_worstTooth_29 : decode cX5_worstTooth 29 = .ok (.istore 6, 2) := by decide +kernel
theorem dX5_worstTooth_31 : decode cX5_worstTooth 31 = .ok (.iload 6, 2) := by decide +kernel
theorem dX5_worstTooth_33 : decode cX5_worstTooth 33 = .ok (.iload 4, 2) := by decide +kernel
theorem dX5_worstTooth_35 : decode cX5_worstTooth 35 = .ok (.if_icmp .ge 10, 3) := by decide +kernel
theorem dX5_worstTooth_38 : decode cX5_worstTooth 38 = .ok (.iload 6, 2) := by decide +kernel
theorem dX5_worstTooth_40 : decode cX5_worstTooth 40 = .ok (.istore 4, 2) := by decide +kernel
theorem dX5_worstTooth_42 : decode cX5_worstTooth 42 = .ok (.iload 5, 2) := by decide +kernel
theorem dX5_worstTooth_44 : decode cX5_worstTooth 44 = .ok (.istore_n 3, 1) := by decide +kernel
theorem dX5_worstTooth_45 : decode cX5_worstTooth 45 = .ok (.iinc 5 1, 3) := by decide +kernel
theorem dX5_worstTooth_48 : decode cX5_worstTooth 48 = .ok (.goto (-34), 3) := by decide +kernel
theorem dX5_worstTooth_51 : decode cX5_worstTooth 51 = .ok (.iload_n 3, 1) := by decide +kernel
theorem dX5_worstTooth_52 : decode cX5_worstTooth 52 = .ok (.ireturn, 1) := by decide +kernel
theorem dX5_lesserCost_0 : decode cX5_lesserCost 0 = .ok (.aload_n 1, 1) := by decide +kernel
theorem dX5_lesserCost_1 : decode cX5_lesserCost 1 = .ok (.iload_n 2, 1) := by decide +kernel
theorem dX5_lesserCost_2 : decode cX5_lesserCost 2 = .ok (.iconst 1, 1) := by decide +kernel
theorem dX5_lesserCost_3 : decode cX5_lesserCost 3 = .ok (.iload_n 3, 1) := by decide +kernel
theorem dX5_lesserCost_4 : decode cX5_lesserCost 4 = .ok (.aload_n 0, 1) := by decide +kernel
theorem dX5_lesserCost_5 : decode cX5_lesserCost 5 = .ok (.getfield 10, 3) := by decide +kernel
theorem dX5_lesserCost_8 : decode cX5_lesserCost 8 = .ok (.getfield 84, 3) := by decide +kernel
theorem dX5_lesserCost_11 : decode cX5_lesserCost 11 = .ok (.invokevirtual 199, 3) := by decide +kernel
theorem dX5_lesserCost_14 : decode cX5_lesserCost 14 = .ok (.istore 4, 2) := by decide +kernel
theorem dX5_lesserCost_16 : decode cX5_lesserCost 16 = .ok (.aload_n 1, 1) := by decide +kernel
theorem dX5_lesserCost_17 : decode cX5_lesserCost 17 = .ok (.iload_n 2, 1) := by decide +kernel
theorem dX5_lesserCost_18 : decode cX5_lesserCost 18 = .ok (.iconst (-1), 1) := by decide +kernel
theorem dX5_lesserCost_19 : decode cX5_lesserCost 19 = .ok (.iload_n 3, 1) := by decide +kernel
theorem dX5_lesserCost_20 : decode cX5_lesserCost 20 = .ok (.aload_n 0, 1) := by decide +kernel
theorem dX5_lesserCost_21 : decode cX5_lesserCost 21 = .ok (.getfield 10, 3) := by decide +kernel
theorem dX5_lesserCost_24 : decode cX5_lesserCost 24 = .ok (.getfield 84, 3) := by decide +kernel
theorem dX5_lesserCost_27 : decode cX5_lesserCost 27 = .ok (.invokevirtual 199, 3) := by decide +kernel
theorem dX5_lesserCost_30 : decode cX5_lesserCost 30 = .ok (.istore 5, 2) := by decide +kernel
theorem dX5_lesserCost_32 : decode cX5_lesserCost 32 = .ok (.iload 4, 2) := by decide +kernel
theorem dX5_lesserCost_34 : decode cX5_lesserCost 34 = .ok (.iload 5, 2) := by decide +kernel
theorem dX5_lesserCost_36 : decode cX5_lesserCost 36 = .ok (.invokestatic 341, 3) := by decide +kernel
theorem dX5_lesserCost_39 : decode cX5_lesserCost 39 = .ok (.ireturn, 1) := by decide +kernel
theorem dX5_mixed_0 : decode cX5_mixed 0 = .ok (.ldc2_w 346, 3) := by decide +kernel
theorem dX5_mixed_3 : decode cX5_mixed 3 = .ok (.lload_n 0, 1) := by decide +kernel
theorem dX5_mixed_4 : decode cX5_mixed 4 = .ok (.lmul, 1) := by decide +kernel
theorem dX5_mixed_5 : decode cX5_mixed 5 = .ok (.lload_n 2, 1) := by decide +kernel
theorem dX5_mixed_6 : decode cX5_mixed 6 = .ok (.ladd, 1) := by decide +kernel
theorem dX5_mixed_7 : decode cX5_mixed 7 = .ok (.lreturn, 1) := by decide +kernel
theorem dX5_mixedWithFacts_0 : decode cX5_mixedWithFacts 0 = .ok (.iconst 0, 1) := by decide +kernel
theorem dX5_mixedWithFacts_1 : decode cX5_mixedWithFacts 1 = .ok (.istore_n 3, 1) := by decide +kernel
theorem dX5_mixedWithFacts_2 : decode cX5_mixedWithFacts 2 = .ok (.iload_n 3, 1) := by decide +kernel
theorem dX5_mixedWithFacts_3 : decode cX5_mixedWithFacts 3 = .ok (.bipush 12, 2) := by decide +kernel
theorem dX5_mixedWithFacts_5 : decode cX5_mixedWithFacts 5 = .ok (.if_icmp .ge 20, 3) := by decide +kernel
theorem dX5_mixedWithFacts_8 : decode cX5_mixedWithFacts 8 = .ok (.lload_n 0, 1) := by decide +kernel
theorem dX5_mixedWithFacts_9 : decode cX5_mixedWithFacts 9 = .ok (.aload_n 2, 1) := by decide +kernel
theorem dX5_mixedWithFacts_10 : decode cX5_mixedWithFacts 10 = .ok (.iload_n 3, 1) := by decide +kernel
theorem dX5_mixedWithFacts_11 : decode cX5_mixedWithFacts 11 = .ok (.invokevirtual 184, 3) := by decide +kernel
theorem dX5_mixedWithFacts_14 : decode cX5_mixedWithFacts 14 = .ok (.i2l, 1) := by decide +kernel
theorem dX5_mixedWithFacts_15 : decode cX5_mixedWithFacts 15 = .ok (.invokestatic 222, 3) := by decide +kernel
theorem dX5_mixedWithFacts_18 : decode cX5_mixedWithFacts 18 = .ok (.lstore_n 0, 1) := by decide +kernel
theorem dX5_mixedWithFacts_19 : decode cX5_mixedWithFacts 19 = .ok (.iinc 3 1, 3) := by decide +kernel
theorem dX5_mixedWithFacts_22 : decode cX5_mixedWithFacts 22 = .ok (.goto (-20), 3) := by decide +kernel
theorem dX5_mixedWithFacts_25 : decode cX5_mixedWithFacts 25 = .ok (.iconst 0, 1) := by decide +kernel
theorem dX5_mixedWithFacts_26 : decode cX5_mixedWithFacts 26 = .ok (.istore_n 3, 1) := by decide +kernel
theorem dX5_mixedWithFacts_27 : decode cX5_mixedWithFacts 27 = .ok (.iload_n 3, 1) := by decide +kernel
theorem dX5_mixedWithFacts_28 : decode cX5_mixedWithFacts 28 = .ok (.bipush 24, 2) := by decide +kernel
theorem dX5_mixedWithFacts_30 : decode cX5_mixedWithFacts 30 = .ok (.if_icmp .ge 20, 3) := by decide +kernel
theorem dX5_mixedWithFacts_33 : decode cX5_mixedWithFacts 33 = .ok (.lload_n 0, 1) := by decide +kernel
theorem dX5_mixedWithFacts_34 : decode cX5_mixedWithFacts 34 = .ok (.aload_n 2, 1) := by decide +kernel
theorem dX5_mixedWithFacts_35 : decode cX5_mixedWithFacts 35 = .ok (.iload_n 3, 1) := by decide +kernel
theorem dX5_mixedWithFacts_36 : decode cX5_mixedWithFacts 36 = .ok (.invokevirtual 144, 3) := by decide +kernel
theorem dX5_mixedWithFacts_39 : decode cX5_mixedWithFacts 39 = .ok (.i2l, 1) := by decide +kernel
theorem dX5_mixedWithFacts_40 : decode cX5_mixedWithFacts 40 = .ok (.invokestatic 222, 3) := by decide +kernel
theorem dX5_mixedWithFacts_43 : decode cX5_mixedWithFacts 43 = .ok (.lstore_n 0, 1) := by decide +kernel
theorem dX5_mixedWithFacts_44 : decode cX5_mixedWithFacts 44 = .ok (.iinc 3 1, 3) := by decide +kernel
theorem dX5_mixedWithFacts_47 : decode cX5_mixedWithFacts 47 = .ok (.goto (-20), 3) := by decide +kernel
theorem dX5_mixedWithFacts_50 : decode cX5_mixedWithFacts 50 = .ok (.lload_n 0, 1) := by decide +kernel
theorem dX5_mixedWithFacts_51 : decode cX5_mixedWithFacts 51 = .ok (.lreturn, 1) := by decide +kernel
theorem dX5_mixedWithForecasts_0 : decode cX5_mixedWithForecasts 0 = .ok (.lload_n 1, 1) := by decide +kernel
theorem dX5_mixedWithForecasts_1 : decode cX5_mixedWithForecasts 1 = .ok (.aload_n 3, 1) := by decide +kernel
theorem dX5_mixedWithForecasts_2 : decode cX5_mixedWithForecasts 2 = .ok (.iconst 1, 1) := by decide +kernel
theorem dX5_mixedWithForecasts_3 : decode cX5_mixedWithForecasts 3 = .ok (.aload_n 0, 1) := by decide +kernel
theorem dX5_mixedWithForecasts_4 : decode cX5_mixedWithForecasts 4 = .ok (.getfield 10, 3) := by decide +kernel
theorem dX5_mixedWithForecasts_7 : decode cX5_mixedWithForecasts 7 = .ok (.getfield 84, 3) := by decide +kernel
theorem dX5_mixedWithForecasts_10 : decode cX5_mixedWithForecasts 10 = .ok (.invokevirtual 192, 3) := by decide +kernel
theorem dX5_mixedWithForecasts_13 : decode cX5_mixedWithForecasts 13 = .ok (.i2l, 1) := by decide +kernel
theorem dX5_mixedWithForecasts_14 : decode cX5_mixedWithForecasts 14 = .ok (.invokestatic 222, 3) := by decide +kernel
theorem dX5_mixedWithForecasts_17 : decode cX5_mixedWithForecasts 17 = .ok (.lstore_n 1, 1) := by decide +kernel
theorem dX5_mixedWithForecasts_18 : decode cX5_mixedWithForecasts 18 = .ok (.lload_n 1, 1) := by decide +kernel
theorem dX5_mixedWithForecasts_19 : decode cX5_mixedWithForecasts 19 = .ok (.aload_n 3, 1) := by decide +kernel
theorem dX5_mixedWithForecasts_20 : decode cX5_mixedWithForecasts 20 = .ok (.iconst (-1), 1) := by decide +kernel
theorem dX5_mixedWithForecasts_21 : decode cX5_mixedWithForecasts 21 = .ok (.aload_n 0, 1) := by decide +kernel
theorem dX5_mixedWithForecasts_22 : decode cX5_mixedWithForecasts 22 = .ok (.getfield 10, 3) := by decide +kernel
theorem dX5_mixedWithForecasts_25 : decode cX5_mixedWithForecasts 25 = .ok (.getfield 84, 3) := by decide +kernel
theorem dX5_mixedWithForecasts_28 : decode cX5_mixedWithForecasts 28 = .ok (.invokevirtual 192, 3) := by decide +kernel
theorem dX5_mixedWithForecasts_31 : decode cX5_mixedWithForecasts 31 = .ok (.i2l, 1) := by decide +kernel
theorem dX5_mixedWithForecasts_32 : decode cX5_mixedWithForecasts 32 = .ok (.invokestatic 222, 3) := by decide +kernel
theorem dX5_mixedWithForecasts_35 : decode cX5_mixedWithForecasts 35 = .ok (.lstore_n 1, 1) := by decide +kernel
theorem dX5_mixedWithForecasts_36 : decode cX5_mixedWithForecasts 36 = .ok (.lload_n 1, 1) := by decide +kernel
theorem dX5_mixedWithForecasts_37 : decode cX5_mixedWithForecasts 37 = .ok (.aload_n 0, 1) := by decide +kernel
theorem dX5_mixedWithForecasts_38 : decode cX5_mixedWithForecasts 38 = .ok (.aload_n 3, 1) := by decide +kernel
theorem dX5_mixedWithForecasts_39 : decode cX5_mixedWithForecasts 39 = .ok (.iconst 1, 1) := by decide +kernel
theorem dX5_mixedWithForecasts_40 : decode cX5_mixedWithForecasts 40 = .ok (.invokevirtual 196, 3) := by decide +kernel
theorem dX5_mixedWithForecasts_43 : decode cX5_mixedWithForecasts 43 = .ok (.i2l, 1) := by decide +kernel
theorem dX5_mixedWithForecasts_44 : decode cX5_mixedWithForecasts 44 = .ok (.invokestatic 222, 3) := by decide +kernel
theorem dX5_mixedWithForecasts_47 : decode cX5_mixedWithForecasts 47 = .ok (.lstore_n 1, 1) := by decide +kernel
theorem dX5_mixedWithForecasts_48 : decode cX5_mixedWithForecasts 48 = .ok (.lload_n 1, 1) := by decide +kernel
theorem dX5_mixedWithForecasts_49 : decode cX5_mixedWithForecasts 49 = .ok (.aload_n 0, 1) := by decide +kernel
theorem dX5_mixedWithForecasts_50 : decode cX5_mixedWithForecasts 50 = .ok (.aload_n 3, 1) := by decide +kernel
theorem dX5_mixedWithForecasts_51 : decode cX5_mixedWithForecasts 51 = .ok (.iconst (-1), 1) := by decide +kernel
theorem dX5_mixedWithForecasts_52 : decode cX5_mixedWithForecasts 52 = .ok (.invokevirtual 196, 3) := by decide +kernel
theorem dX5_mixedWithForecasts_55 : decode cX5_mixedWithForecasts 55 = .ok (.i2l, 1) := by decide +kernel
theorem dX5_mixedWithForecasts_56 : decode cX5_mixedWithForecasts 56 = .ok (.invokestatic 222, 3) := by decide +kernel
theorem dX5_mixedWithForecasts_59 : decode cX5_mixedWithForecasts 59 = .ok (.lstore_n 1, 1) := by decide +kernel
theorem dX5_mixedWithForecasts_60 : decode cX5_mixedWithForecasts 60 = .ok (.lload_n 1, 1) := by decide +kernel
theorem dX5_mixedWithForecasts_61 : decode cX5_mixedWithForecasts 61 = .ok (.aload_n 3, 1) := by decide +kernel
theorem dX5_mixedWithForecasts_62 : decode cX5_mixedWithForecasts 62 = .ok (.bipush 12, 2) := by decide +kernel
theorem dX5_mixedWithForecasts_64 : decode cX5_mixedWithForecasts 64 = .ok (.iconst 1, 1) := by decide +kernel
theorem dX5_mixedWithForecasts_65 : decode cX5_mixedWithForecasts 65 = .ok (.iconst (-1), 1) := by decide +kernel
theorem dX5_mixedWithForecasts_66 : decode cX5_mixedWithForecasts 66 = .ok (.aload_n 0, 1) := by decide +kernel
theorem dX5_mixedWithForecasts_67 : decode cX5_mixedWithForecasts 67 = .ok (.getfield 10, 3) := by decide +kernel
theorem dX5_mixedWithForecasts_70 : decode cX5_mixedWithForecasts 70 = .ok (.getfield 84, 3) := by decide +kernel
theorem dX5_mixedWithForecasts_73 : decode cX5_mixedWithForecasts 73 = .ok (.invokevirtual 199, 3) := by decide +kernel
theorem dX5_mixedWithForecasts_76 : decode cX5_mixedWithForecasts 76 = .ok (.i2l, 1) := by decide +kernel
theorem dX5_mixedWithForecasts_77 : decode cX5_mixedWithForecasts 77 = .ok (.invokestatic 222, 3) := by decide +kernel
theorem dX5_mixedWithForecasts_80 : decode cX5_mixedWithForecasts 80 = .ok (.lstore_n 1, 1) := by decide +kernel
theorem dX5_mixedWithForecasts_81 : decode cX5_mixedWithForecasts 81 = .ok (.lload_n 1, 1) := by decide +kernel
theorem dX5_mixedWithForecasts_82 : decode cX5_mixedWithForecasts 82 = .ok (.aload_n 3, 1) := by decide +kernel
theorem dX5_mixedWithForecasts_83 : decode cX5_mixedWithForecasts 83 = .ok (.bipush 12, 2) := by decide +kernel
theorem dX5_mixedWithForecasts_85 : decode cX5_mixedWithForecasts 85 = .ok (.iconst (-1), 1) := by decide +kernel
theorem dX5_mixedWithForecasts_86 : decode cX5_mixedWithForecasts 86 = .ok (.iconst (-1), 1) := by decide +kernel
theorem dX5_mixedWithForecasts_87 : decode cX5_mixedWithForecasts 87 = .ok (.aload_n 0, 1) := by decide +kernel
theorem dX5_mixedWithForecasts_88 : decode cX5_mixedWithForecasts 88 = .ok (.getfield 10, 3) := by decide +kernel
theorem dX5_mixedWithForecasts_91 : decode cX5_mixedWithForecasts 91 = .ok (.getfield 84, 3) := by decide +kernel
theorem dX5_mixedWithForecasts_94 : decode cX5_mixedWithForecasts 94 = .ok (.invokevirtual 199, 3) := by decide +kernel
theorem dX5_mixedWithForecasts_97 : decode cX5_mixedWithForecasts 97 = .ok (.i2l, 1) := by decide +kernel
theorem dX5_mixedWithForecasts_98 : decode cX5_mixedWithForecasts 98 = .ok (.invokestatic 222, 3) := by decide +kernel
theorem dX5_mixedWithForecasts_101 : decode cX5_mixedWithForecasts 101 = .ok (.lstore_n 1, 1) := by decide +kernel
theorem dX5_mixedWithForecasts_102 : decode cX5_mixedWithForecasts 102 = .ok (.iconst 0, 1) := by decide +kernel
theorem dX5_mixedWithForecasts_103 : decode cX5_mixedWithForecasts 103 = .ok (.istore 4, 2) := by decide +kernel
theorem dX5_mixedWithForecasts_105 : decode cX5_mixedWithForecasts 105 = .ok (.iload 4, 2) := by decide +kernel
theorem dX5_mixedWithForecasts_107 : decode cX5_mixedWithForecasts 107 = .ok (.iconst 3, 1) := by decide +kernel
theorem dX5_mixedWithForecasts_108 : decode cX5_mixedWithForecasts 108 = .ok (.if_icmp .ge 22, 3) := by decide +kernel
theorem dX5_mixedWithForecasts_111 : decode cX5_mixedWithForecasts 111 = .ok (.lload_n 1, 1) := by decide +kernel
theorem dX5_mixedWithForecasts_112 : decode cX5_mixedWithForecasts 112 = .ok (.aload_n 0, 1) := by decide +kernel
theorem dX5_mixedWithForecasts_113 : decode cX5_mixedWithForecasts 113 = .ok (.aload_n 3, 1) := by decide +kernel
theorem dX5_mixedWithForecasts_114 : decode cX5_mixedWithForecasts 114 = .ok (.iload 4, 2) := by decide +kernel
theorem dX5_mixedWithForecasts_116 : decode cX5_mixedWithForecasts 116 = .ok (.invokevirtual 205, 3) := by decide +kernel
theorem dX5_mixedWithForecasts_119 : decode cX5_mixedWithForecasts 119 = .ok (.i2l, 1) := by decide +kernel
theorem dX5_mixedWithForecasts_120 : decode cX5_mixedWithForecasts 120 = .ok (.invokestatic 222, 3) := by decide +kernel
theorem dX5_mixedWithForecasts_123 : decode cX5_mixedWithForecasts 123 = .ok (.lstore_n 1, 1) := by decide +kernel
theorem dX5_mixedWithForecasts_124 : decode cX5_mixedWithForecasts 124 = .ok (.iinc 4 1, 3) := by decide +kernel
theorem dX5_mixedWithForecasts_127 : decode cX5_mixedWithForecasts 127 = .ok (.goto (-22), 3) := by decide +kernel
theorem dX5_mixedWithForecasts_130 : decode cX5_mixedWithForecasts 130 = .ok (.lload_n 1, 1) := by decide +kernel
theorem dX5_mixedWithForecasts_131 : decode cX5_mixedWithForecasts 131 = .ok (.aload_n 0, 1) := by decide +kernel
theorem dX5_mixedWithForecasts_132 : decode cX5_mixedWithForecasts 132 = .ok (.aload_n 3, 1) := by decide +kernel
theorem dX5_mixedWithForecasts_133 : decode cX5_mixedWithForecasts 133 = .ok (.iconst 1, 1) := by decide +kernel
theorem dX5_mixedWithForecasts_134 : decode cX5_mixedWithForecasts 134 = .ok (.invokevirtual 208, 3) := by decide +kernel
theorem dX5_mixedWithForecasts_137 : decode cX5_mixedWithForecasts 137 = .ok (.i2l, 1) := by decide +kernel
theorem dX5_mixedWithForecasts_138 : decode cX5_mixedWithForecasts 138 = .ok (.invokestatic 222, 3) := by decide +kernel
theorem dX5_mixedWithForecasts_141 : decode cX5_mixedWithForecasts 141 = .ok (.lstore_n 1, 1) := by decide +kernel
theorem dX5_mixedWithForecasts_142 : decode cX5_mixedWithForecasts 142 = .ok (.lload_n 1, 1) := by decide +kernel
theorem dX5_mixedWithForecasts_143 : decode cX5_mixedWithForecasts 143 = .ok (.aload_n 0, 1) := by decide +kernel
theorem dX5_mixedWithForecasts_144 : decode cX5_mixedWithForecasts 144 = .ok (.aload_n 3, 1) := by decide +kernel
theorem dX5_mixedWithForecasts_145 : decode cX5_mixedWithForecasts 145 = .ok (.iconst (-1), 1) := by decide +kernel
theorem dX5_mixedWithForecasts_146 : decode cX5_mixedWithForecasts 146 = .ok (.invokevirtual 208, 3) := by decide +kernel
theorem dX5_mixedWithForecasts_149 : decode cX5_mixedWithForecasts 149 = .ok (.i2l, 1) := by decide +kernel
theorem dX5_mixedWithForecasts_150 : decode cX5_mixedWithForecasts 150 = .ok (.invokestatic 222, 3) := by decide +kernel
theorem dX5_mixedWithForecasts_153 : decode cX5_mixedWithForecasts 153 = .ok (.lstore_n 1, 1) := by decide +kernel
theorem dX5_mixedWithForecasts_154 : decode cX5_mixedWithForecasts 154 = .ok (.lload_n 1, 1) := by decide +kernel
theorem dX5_mixedWithForecasts_155 : decode cX5_mixedWithForecasts 155 = .ok (.aload_n 3, 1) := by decide +kernel
theorem dX5_mixedWithForecasts_156 : decode cX5_mixedWithForecasts 156 = .ok (.invokevirtual 211, 3) := by decide +kernel
theorem dX5_mixedWithForecasts_159 : decode cX5_mixedWithForecasts 159 = .ok (.i2l, 1) := by decide +kernel
theorem dX5_mixedWithForecasts_160 : decode cX5_mixedWithForecasts 160 = .ok (.invokestatic 222, 3) := by decide +kernel
theorem dX5_mixedWithForecasts_163 : decode cX5_mixedWithForecasts 163 = .ok (.lstore_n 1, 1) := by decide +kernel
theorem dX5_mixedWithForecasts_164 : decode cX5_mixedWithForecasts 164 = .ok (.lload_n 1, 1) := by decide +kernel
theorem dX5_mixedWithForecasts_165 : decode cX5_mixedWithForecasts 165 = .ok (.aload_n 0, 1) := by decide +kernel
theorem dX5_mixedWithForecasts_166 : decode cX5_mixedWithForecasts 166 = .ok (.aload_n 3, 1) := by decide +kernel
theorem dX5_mixedWithForecasts_167 : decode cX5_mixedWithForecasts 167 = .ok (.bipush 12, 2) := by decide +kernel
theorem dX5_mixedWithForecasts_169 : decode cX5_mixedWithForecasts 169 = .ok (.invokevirtual 214, 3) := by decide +kernel
theorem dX5_mixedWithForecasts_172 : decode cX5_mixedWithForecasts 172 = .ok (.i2l, 1) := by decide +kernel
theorem dX5_mixedWithForecasts_173 : decode cX5_mixedWithForecasts 173 = .ok (.invokestatic 222, 3) := by decide +kernel
theorem dX5_mixedWithForecasts_176 : decode cX5_mixedWithForecasts 176 = .ok (.lreturn, 1) := by decide +kernel
theorem dX5_bitsOf_0 : decode cX5_bitsOf 0 = .ok (.dload_n 0, 1) := by decide +kernel
theorem dX5_bitsOf_1 : decode cX5_bitsOf 1 = .ok (.dconst 1, 1) := by decide +kernel
theorem dX5_bitsOf_2 : decode cX5_bitsOf 2 = .ok (.dcmp .g, 1) := by decide +kernel
theorem dX5_bitsOf_3 : decode cX5_bitsOf 3 = .ok (.ifCond .ge 5, 3) := by decide +kernel
theorem dX5_bitsOf_6 : decode cX5_bitsOf 6 = .ok (.lconst 0, 1) := by decide +kernel
theorem dX5_bitsOf_7 : decode cX5_bitsOf 7 = .ok (.lreturn, 1) := by decide +kernel
theorem dX5_bitsOf_8 : decode cX5_bitsOf 8 = .ok (.dload_n 0, 1) := by decide +kernel
theorem dX5_bitsOf_9 : decode cX5_bitsOf 9 = .ok (.dstore_n 2, 1) := by decide +kernel
theorem dX5_bitsOf_10 : decode cX5_bitsOf 10 = .ok (.lconst 0, 1) := by decide +kernel
theorem dX5_bitsOf_11 : decode cX5_bitsOf 11 = .ok (.lstore 4, 2) := by decide +kernel
theorem dX5_bitsOf_13 : decode cX5_bitsOf 13 = .ok (.dload_n 2, 1) := by decide +kernel
theorem dX5_bitsOf_14 : decode cX5_bitsOf 14 = .ok (.ldc2_w 348, 3) := by decide +kernel
theorem dX5_bitsOf_17 : decode cX5_bitsOf 17 = .ok (.dcmp .l, 1) := by decide +kernel
theorem dX5_bitsOf_18 : decode cX5_bitsOf 18 = .ok (.ifCond .lt 27, 3) := by decide +kernel
theorem dX5_bitsOf_21 : decode cX5_bitsOf 21 = .ok (.lload 4, 2) := by decide +kernel
theorem dX5_bitsOf_23 : decode cX5_bitsOf 23 = .ok (.ldc2_w 350, 3) := by decide +kernel
theorem dX5_bitsOf_26 : decode cX5_bitsOf 26 = .ok (.lcmp, 1) := by decide +kernel
theorem dX5_bitsOf_27 : decode cX5_bitsOf 27 = .ok (.ifCond .ge 18, 3) := by decide +kernel
theorem dX5_bitsOf_30 : decode cX5_bitsOf 30 = .ok (.dload_n 2, 1) := by decide +kernel
theorem dX5_bitsOf_31 : decode cX5_bitsOf 31 = .ok (.ldc2_w 348, 3) := by decide +kernel
theorem dX5_bitsOf_34 : decode cX5_bitsOf 34 = .ok (.ddiv, 1) := by decide +kernel
theorem dX5_bitsOf_35 : decode cX5_bitsOf 35 = .ok (.dstore_n 2, 1) := by decide +kernel
theorem dX5_bitsOf_36 : decode cX5_bitsOf 36 = .ok (.lload 4, 2) := by decide +kernel
theorem dX5_bitsOf_38 : decode cX5_bitsOf 38 = .ok (.lconst 1, 1) := by decide +kernel
theorem dX5_bitsOf_39 : decode cX5_bitsOf 39 = .ok (.ladd, 1) := by decide +kernel
theorem dX5_bitsOf_40 : decode cX5_bitsOf 40 = .ok (.lstore 4, 2) := by decide +kernel
theorem dX5_bitsOf_42 : decode cX5_bitsOf 42 = .ok (.goto (-29), 3) := by decide +kernel
theorem dX5_bitsOf_45 : decode cX5_bitsOf 45 = .ok (.dload_n 2, 1) := by decide +kernel
theorem dX5_bitsOf_46 : decode cX5_bitsOf 46 = .ok (.dconst 1, 1) := by decide +kernel
theorem dX5_bitsOf_47 : decode cX5_bitsOf 47 = .ok (.dsub, 1) := by decide +kernel
theorem dX5_bitsOf_48 : decode cX5_bitsOf 48 = .ok (.ldc2_w 352, 3) := by decide +kernel
theorem dX5_bitsOf_51 : decode cX5_bitsOf 51 = .ok (.dmul, 1) := by decide +kernel
theorem dX5_bitsOf_52 : decode cX5_bitsOf 52 = .ok (.d2l, 1) := by decide +kernel
theorem dX5_bitsOf_53 : decode cX5_bitsOf 53 = .ok (.lstore 6, 2) := by decide +kernel
theorem dX5_bitsOf_55 : decode cX5_bitsOf 55 = .ok (.lload 4, 2) := by decide +kernel
theorem dX5_bitsOf_57 : decode cX5_bitsOf 57 = .ok (.ldc2_w 350, 3) := by decide +kernel
theorem dX5_bitsOf_60 : decode cX5_bitsOf 60 = .ok (.ladd, 1) := by decide +kernel
theorem dX5_bitsOf_61 : decode cX5_bitsOf 61 = .ok (.bipush 52, 2) := by decide +kernel
theorem dX5_bitsOf_63 : decode cX5_bitsOf 63 = .ok (.lshl, 1) := by decide +kernel
theorem dX5_bitsOf_64 : decode cX5_bitsOf 64 = .ok (.lload 6, 2) := by decide +kernel
theorem dX5_bitsOf_66 : decode cX5_bitsOf 66 = .ok (.lor, 1) := by decide +kernel
theorem dX5_bitsOf_67 : decode cX5_bitsOf 67 = .ok (.lreturn, 1) := by decide +kernel
theorem dX6_init_0 : decode cX6_init 0 = .ok (.aload_n 0, 1) := by decide +kernel
theorem dX6_init_1 : decode cX6_init 1 = .ok (.invokespecial 1, 3) := by decide +kernel
theorem dX6_init_4 : decode cX6_init 4 = .ok (.aload_n 0, 1) := by decide +kernel
theorem dX6_init_5 : decode cX6_init 5 = .ok (.sipush 148, 3) := by decide +kernel
theorem dX6_init_8 : decode cX6_init 8 = .ok (.newarray .int, 2) := by decide +kernel
theorem dX6_init_10 : decode cX6_init 10 = .ok (.putfield 7, 3) := by decide +kernel
theorem dX6_init_13 : decode cX6_init 13 = .ok (.aload_n 0, 1) := by decide +kernel
theorem dX6_init_14 : decode cX6_init 14 = .ok (.sipush 888, 3) := by decide +kernel
theorem dX6_init_17 : decode cX6_init 17 = .ok (.newarray .int, 2) := by decide +kernel
theorem dX6_init_19 : decode cX6_init 19 = .ok (.putfield 13, 3) := by decide +kernel
theorem dX6_init_22 : decode cX6_init 22 = .ok (.aload_n 0, 1) := by decide +kernel
theorem dX6_init_23 : decode cX6_init 23 = .ok (.bipush 60, 2) := by decide +kernel
theorem dX6_init_25 : decode cX6_init 25 = .ok (.newarray .int, 2) := by decide +kernel
theorem dX6_init_27 : decode cX6_init 27 = .ok (.putfield 16, 3) := by decide +kernel
theorem dX6_init_30 : decode cX6_init 30 = .ok (.aload_n 0, 1) := by decide +kernel
theorem dX6_init_31 : decode cX6_init 31 = .ok (.iconst (-1), 1) := by decide +kernel
theorem dX6_init_32 : decode cX6_init 32 = .ok (.putfield 19, 3) := by decide +kernel
theorem dX6_init_35 : decode cX6_init 35 = .ok (.aload_n 0, 1) := by decide +kernel
theorem dX6_init_36 : decode cX6_init 36 = .ok (.bipush 72, 2) := by decide +kernel
theorem dX6_init_38 : decode cX6_init 38 = .ok (.newarray .int, 2) := by decide +kernel
theorem dX6_init_40 : decode cX6_init 40 = .ok (.putfield 23, 3) := by decide +kernel
theorem dX6_init_43 : decode cX6_init 43 = .ok (.aload_n 0, 1) := by decide +kernel
theorem dX6_init_44 : decode cX6_init 44 = .ok (.sipush 148, 3) := by decide +kernel
theorem dX6_init_47 : decode cX6_init 47 = .ok (.newarray .int, 2) := by decide +kernel
theorem dX6_init_49 : decode cX6_init 49 = .ok (.putfield 26, 3) := by decide +kernel
theorem dX6_init_52 : decode cX6_init 52 = .ok (.aload_n 0, 1) := by decide +kernel
theorem dX6_init_53 : decode cX6_init 53 = .ok (.getfield 7, 3) := by decide +kernel
theorem dX6_init_56 : decode cX6_init 56 = .ok (.iconst 0, 1) := by decide +kernel
theorem dX6_init_57 : decode cX6_init 57 = .ok (.iconst 3, 1) := by decide +kernel
theorem dX6_init_58 : decode cX6_init 58 = .ok (.iastore, 1) := by decide +kernel
theorem dX6_init_59 : decode cX6_init 59 = .ok (.aload_n 0, 1) := by decide +kernel
theorem dX6_init_60 : decode cX6_init 60 = .ok (.getfield 7, 3) := by decide +kernel
theorem dX6_init_63 : decode cX6_init 63 = .ok (.iconst 1, 1) := by decide +kernel
theorem dX6_init_64 : decode cX6_init 64 = .ok (.bipush 10, 2) := by decide +kernel
theorem dX6_init_66 : decode cX6_init 66 = .ok (.iastore, 1) := by decide +kernel
theorem dX6_init_67 : decode cX6_init 67 = .ok (.aload_n 0, 1) := by decide +kernel
theorem dX6_init_68 : decode cX6_init 68 = .ok (.getfield 7, 3) := by decide +kernel
theorem dX6_init_71 : decode cX6_init 71 = .ok (.iconst 2, 1) := by decide +kernel
theorem dX6_init_72 : decode cX6_init 72 = .ok (.bipush 40, 2) := by decide +kernel
theorem dX6_init_74 : decode cX6_init 74 = .ok (.iastore, 1) := by decide +kernel
theorem dX6_init_75 : decode cX6_init 75 = .ok (.aload_n 0, 1) := by decide +kernel
theorem dX6_init_76 : decode cX6_init 76 = .ok (.getfield 7, 3) := by decide +kernel
theorem dX6_init_79 : decode cX6_init 79 = .ok (.iconst 3, 1) := by decide +kernel
theorem dX6_init_80 : decode cX6_init 80 = .ok (.iconst 1, 1) := by decide +kernel
theorem dX6_init_81 : decode cX6_init 81 = .ok (.iastore, 1) := by decide +kernel
theorem dX6_init_82 : decode cX6_init 82 = .ok (.aload_n 0, 1) := by decide +kernel
theorem dX6_init_83 : decode cX6_init 83 = .ok (.getfield 7, 3) := by decide +kernel
theorem dX6_init_86 : decode cX6_init 86 = .ok (.iconst 4, 1) := by decide +kernel
theorem dX6_init_87 : decode cX6_init 87 = .ok (.bipush 12, 2) := by decide +kernel
theorem dX6_init_89 : decode cX6_init 89 = .ok (.iastore, 1) := by decide +kernel
theorem dX6_init_90 : decode cX6_init 90 = .ok (.aload_n 0, 1) := by decide +kernel
theorem dX6_init_91 : decode cX6_init 91 = .ok (.getfield 7, 3) := by decide +kernel
theorem dX6_init_94 : decode cX6_init 94 = .ok (.iconst 5, 1) := by decide +kernel
theorem dX6_init_95 : decode cX6_init 95 = .ok (.bipush 15, 2) := by decide +kernel
theorem dX6_init_97 : decode cX6_init 97 = .ok (.iastore, 1) := by decide +kernel
theorem dX6_init_98 : decode cX6_init 98 = .ok (.aload_n 0, 1) := by decide +kernel
theorem dX6_init_99 : decode cX6_init 99 = .ok (.getfield 7, 3) := by decide +kernel
theorem dX6_init_102 : decode cX6_init 102 = .ok (.bipush 6, 2) := by decide +kernel
theorem dX6_init_104 : decode cX6_init 104 = .ok (.sipush 1000, 3) := by decide +kernel
theorem dX6_init_107 : decode cX6_init 107 = .ok (.iastore, 1) := by decide +kernel
theorem dX6_init_108 : decode cX6_init 108 = .ok (.return_, 1) := by decide +kernel
theorem dX6_thrown_0 : decode cX6_thrown 0 = .ok (.aload_n 0, 1) := by decide +kernel
theorem dX6_thrown_1 : decode cX6_thrown 1 = .ok (.getfield 29, 3) := by decide +kernel
theorem dX6_thrown_4 : decode cX6_thrown 4 = .ok (.ireturn, 1) := by decide +kernel
theorem dX6_within_0 : decode cX6_within 0 = .ok (.iload_n 0, 1) := by decide +kernel
theorem dX6_within_1 : decode cX6_within 1 = .ok (.iload_n 1, 1) := by decide +kernel
theorem dX6_within_2 : decode cX6_within 2 = .ok (.if_icmp .lt 12, 3) := by decide +kernel
theorem dX6_within_5 : decode cX6_within 5 = .ok (.iload_n 0, 1) := by decide +kernel
theorem dX6_within_6 : decode cX6_within 6 = .ok (.iload_n 2, 1) := by decide +kernel
theorem dX6_within_7 : decode cX6_within 7 = .ok (.if_icmp .gt 7, 3) := by decide +kernel
theorem dX6_within_10 : decode cX6_within 10 = .ok (.iconst 1, 1) := by decide +kernel
theorem dX6_within_11 : decode cX6_within 11 = .ok (.goto 4, 3) := by decide +kernel
theorem dX6_within_14 : decode cX6_within 14 = .ok (.iconst 0, 1) := by decide +kernel
theorem dX6_within_15 : decode cX6_within 15 = .ok (.ireturn, 1) := by decide +kernel
theorem dX6_save_0 : decode cX6_save 0 = .ok (.aload_n 0, 1) := by decide +kernel
theorem dX6_save_1 : decode cX6_save 1 = .ok (.getfield 32, 3) := by decide +kernel
theorem dX6_save_4 : decode cX6_save 4 = .ok (.bipush 6, 2) := by decide +kernel
theorem dX6_save_6 : decode cX6_save 6 = .ok (.if_icmp .ne 46, 3) := by decide +kernel
theorem dX6_save_9 : decode cX6_save 9 = .ok (.sipush 148, 3) := by decide +kernel
theorem dX6_save_12 : decode cX6_save 12 = .ok (.istore_n 1, 1) := by decide +kernel
theorem dX6_save_13 : decode cX6_save 13 = .ok (.iload_n 1, 1) := by decide +kernel
theorem dX6_save_14 : decode cX6_save 14 = .ok (.sipush 888, 3) := by decide +kernel
theorem dX6_save_17 : decode cX6_save 17 = .ok (.if_icmp .ge 25, 3) := by decide +kernel
theorem dX6_save_20 : decode cX6_save 20 = .ok (.aload_n 0, 1) := by decide +kernel
theorem dX6_save_21 : decode cX6_save 21 = .ok (.getfield 13, 3) := by decide +kernel
theorem dX6_save_24 : decode cX6_save 24 = .ok (.iload_n 1, 1) := by decide +kernel
theorem dX6_save_25 : decode cX6_save 25 = .ok (.sipush 148, 3) := by decide +kernel
theorem dX6_save_28 : decode cX6_save 28 = .ok (.isub, 1) := by decide +kernel
theorem dX6_save_29 : decode cX6_save 29 = .ok (.aload_n 0, 1) := by decide +kernel
theorem dX6_save_30 : decode cX6_save 30 = .ok (.getfield 13, 3) := by decide +kernel
theorem dX6_save_33 : decode cX6_save 33 = .ok (.iload_n 1, 1) := by decide +kernel
theorem dX6_save_34 : decode cX6_save 34 = .ok (.iaload, 1) := by decide +kernel
theorem dX6_save_35 : decode cX6_save 35 = .ok (.iastore, 1) := by decide +kernel
theorem dX6_save_36 : decode cX6_save 36 = .ok (.iinc 1 1, 3) := by decide +kernel
theorem dX6_save_39 : decode cX6_save 39 = .ok (.goto (-26), 3) := by decide +kernel
theorem dX6_save_42 : decode cX6_save 42 = .ok (.aload_n 0, 1) := by decide +kernel
theorem dX6_save_43 : decode cX6_save 43 = .ok (.dup, 1) := by decide +kernel
theorem dX6_save_44 : decode cX6_save 44 = .ok (.getfield 32, 3) := by decide +kernel
theorem dX6_save_47 : decode cX6_save 47 = .ok (.iconst 1, 1) := by decide +kernel
theorem dX6_save_48 : decode cX6_save 48 = .ok (.isub, 1) := by decide +kernel
theorem dX6_save_49 : decode cX6_save 49 = .ok (.putfield 32, 3) := by decide +kernel
theorem dX6_save_52 : decode cX6_save 52 = .ok (.iconst 0, 1) := by decide +kernel
theorem dX6_save_53 : decode cX6_save 53 = .ok (.istore_n 1, 1) := by decide +kernel
theorem dX6_save_54 : decode cX6_save 54 = .ok (.iload_n 1, 1) := by decide +kernel
theorem dX6_save_55 : decode cX6_save 55 = .ok (.sipush 148, 3) := by decide +kernel
theorem dX6_save_58 : decode cX6_save 58 = .ok (.if_icmp .ge 30, 3) := by decide +kernel
theorem dX6_save_61 : decode cX6_save 61 = .ok (.aload_n 0, 1) := by decide +kernel
theorem dX6_save_62 : decode cX6_save 62 = .ok (.getfield 13, 3) := by decide +kernel
theorem dX6_save_65 : decode cX6_save 65 = .ok (.sipush 148, 3) := by decide +kernel
theorem dX6_save_68 : decode cX6_save 68 = .ok (.aload_n 0, 1) := by decide +kernel
theorem dX6_save_69 : decode cX6_save 69 = .ok (.getfield 32, 3) := by decide +kernel
theorem dX6_save_72 : decode cX6_save 72 = .ok (.imul, 1) := by decide +kernel
theorem dX6_save_73 : decode cX6_save 73 = .ok (.iload_n 1, 1) := by decide +kernel
theorem dX6_save_74 : decode cX6_save 74 = .ok (.iadd, 1) := by decide +kernel
theorem dX6_save_75 : decode cX6_save 75 = .ok (.aload_n 0, 1) := by decide +kernel
theorem dX6_save_76 : decode cX6_save 76 = .ok (.getfield 7, 3) := by decide +kernel
theorem dX6_save_79 : decode cX6_save 79 = .ok (.iload_n 1, 1) := by decide +kernel
theorem dX6_save_80 : decode cX6_save 80 = .ok (.iaload, 1) := by decide +kernel
theorem dX6_save_81 : decode cX6_save 81 = .ok (.iastore, 1) := by decide +kernel
theorem dX6_save_82 : decode cX6_save 82 = .ok (.iinc 1 1, 3) := by decide +kernel
theorem dX6_save_85 : decode cX6_save 85 = .ok (.goto (-31), 3) := by decide +kernel
theorem dX6_save_88 : decode cX6_save 88 = .ok (.aload_n 0, 1) := by decide +kernel
theorem dX6_save_89 : decode cX6_save 89 = .ok (.dup, 1) := by decide +kernel
theorem dX6_save_90 : decode cX6_save 90 = .ok (.getfield 32, 3) := by decide +kernel
theorem dX6_save_93 : decode cX6_save 93 = .ok (.iconst 1, 1) := by decide +kernel
theorem dX6_save_94 : decode cX6_save 94 = .ok (.iadd, 1) := by decide +kernel
theorem dX6_save_95 : decode cX6_save 95 = .ok (.putfield 32, 3) := by decide +kernel
theorem dX6_save_98 : decode cX6_save 98 = .ok (.return_, 1) := by decide +kernel
theorem dX6_isAxis_0 : decode cX6_isAxis 0 = .ok (.iload_n 0, 1) := by decide +kernel
theorem dX6_isAxis_1 : decode cX6_isAxis 1 = .ok (.iconst 0, 1) := by decide +kernel
theorem dX6_isAxis_2 : decode cX6_isAxis 2 = .ok (.iconst 3, 1) := by decide +kernel
theorem dX6_isAxis_3 : decode cX6_isAxis 3 = .ok (.invokestatic 35, 3) := by decide +kernel
theorem dX6_isAxis_6 : decode cX6_isAxis 6 = .ok (.ireturn, 1) := by decide +kernel
theorem dX6_isPlace_0 : decode cX6_isPlace 0 = .ok (.iload_n 0, 1) := by decide +kernel
theorem dX6_isPlace_1 : decode cX6_isPlace 1 = .ok (.iconst 0, 1) := by decide +kernel
theorem dX6_isPlace_2 : decode cX6_isPlace 2 = .ok (.bipush 23, 2) := by decide +kernel
theorem dX6_isPlace_4 : decode cX6_isPlace 4 = .ok (.invokestatic 35, 3) := by decide +kernel
theorem dX6_isPlace_7 : decode cX6_isPlace 7 = .ok (.ireturn, 1) := by decide +kernel
theorem dX6_of_0 : decode cX6_of 0 = .ok (.aload_n 0, 1) := by decide +kernel
theorem dX6_of_1 : decode cX6_of 1 = .ok (.getfield 7, 3) := by decide +kernel
theorem dX6_of_4 : decode cX6_of 4 = .ok (.bipush 8, 2) := by decide +kernel
theorem dX6_of_6 : decode cX6_of 6 = .ok (.bipush 35, 2) := by decide +kernel
theorem dX6_of_8 : decode cX6_of 8 = .ok (.iload_n 1, 1) := by decide +kernel
theorem dX6_of_9 : decode cX6_of 9 = .ok (.imul, 1) := by decide +kernel
theorem dX6_of_10 : decode cX6_of 10 = .ok (.iadd, 1) := by decide +kernel
theorem dX6_of_11 : decode cX6_of 11 = .ok (.iload_n 2, 1) := by decide +kernel
end
section
theorem dX6_of_12 : decode cX6_of 12 = .ok (.iadd, 1) := by decide +kernel
theorem dX6_of_13 : decode cX6_of 13 = .ok (.iaload, 1) := by decide +kernel
theorem dX6_of_14 : decode cX6_of 14 = .ok (.ireturn, 1) := by decide +kernel
theorem dX6_put_0 : decode cX6_put 0 = .ok (.aload_n 0, 1) := by decide +kernel
theorem dX6_put_1 : decode cX6_put 1 = .ok (.getfield 7, 3) := by decide +kernel
theorem dX6_put_4 : decode cX6_put 4 = .ok (.bipush 8, 2) := by decide +kernel
theorem dX6_put_6 : decode cX6_put 6 = .ok (.bipush 35, 2) := by decide +kernel
theorem dX6_put_8 : decode cX6_put 8 = .ok (.iload_n 1, 1) := by decide +kernel
theorem dX6_put_9 : decode cX6_put 9 = .ok (.imul, 1) := by decide +kernel
theorem dX6_put_10 : decode cX6_put 10 = .ok (.iadd, 1) := by decide +kernel
theorem dX6_put_11 : decode cX6_put 11 = .ok (.iload_n 2, 1) := by decide +kernel
theorem dX6_put_12 : decode cX6_put 12 = .ok (.iadd, 1) := by decide +kernel
theorem dX6_put_13 : decode cX6_put 13 = .ok (.iload_n 3, 1) := by decide +kernel
theorem dX6_put_14 : decode cX6_put 14 = .ok (.iastore, 1) := by decide +kernel
theorem dX6_put_15 : decode cX6_put 15 = .ok (.return_, 1) := by decide +kernel
theorem dX6_add_0 : decode cX6_add 0 = .ok (.aload_n 0, 1) := by decide +kernel
theorem dX6_add_1 : decode cX6_add 1 = .ok (.getfield 7, 3) := by decide +kernel
theorem dX6_add_4 : decode cX6_add 4 = .ok (.bipush 8, 2) := by decide +kernel
theorem dX6_add_6 : decode cX6_add 6 = .ok (.bipush 35, 2) := by decide +kernel
theorem dX6_add_8 : decode cX6_add 8 = .ok (.iload_n 1, 1) := by decide +kernel
theorem dX6_add_9 : decode cX6_add 9 = .ok (.imul, 1) := by decide +kernel
theorem dX6_add_10 : decode cX6_add 10 = .ok (.iadd, 1) := by decide +kernel
theorem dX6_add_11 : decode cX6_add 11 = .ok (.iload_n 2, 1) := by decide +kernel
theorem dX6_add_12 : decode cX6_add 12 = .ok (.iadd, 1) := by decide +kernel
theorem dX6_add_13 : decode cX6_add 13 = .ok (.dup2, 1) := by decide +kernel
theorem dX6_add_14 : decode cX6_add 14 = .ok (.iaload, 1) := by decide +kernel
theorem dX6_add_15 : decode cX6_add 15 = .ok (.iload_n 3, 1) := by decide +kernel
theorem dX6_add_16 : decode cX6_add 16 = .ok (.iadd, 1) := by decide +kernel
theorem dX6_add_17 : decode cX6_add 17 = .ok (.iastore, 1) := by decide +kernel
theorem dX6_add_18 : decode cX6_add 18 = .ok (.return_, 1) := by decide +kernel
theorem dX6_toothFrom_0 : decode cX6_toothFrom 0 = .ok (.iload_n 1, 1) := by decide +kernel
theorem dX6_toothFrom_1 : decode cX6_toothFrom 1 = .ok (.ifCond .eq 7, 3) := by decide +kernel
theorem dX6_toothFrom_4 : decode cX6_toothFrom 4 = .ok (.iload_n 0, 1) := by decide +kernel
theorem dX6_toothFrom_5 : decode cX6_toothFrom 5 = .ok (.goto 12, 3) := by decide +kernel
theorem dX6_toothFrom_8 : decode cX6_toothFrom 8 = .ok (.iload_n 0, 1) := by decide +kernel
theorem dX6_toothFrom_9 : decode cX6_toothFrom 9 = .ok (.bipush 24, 2) := by decide +kernel
theorem dX6_toothFrom_11 : decode cX6_toothFrom 11 = .ok (.iadd, 1) := by decide +kernel
theorem dX6_toothFrom_12 : decode cX6_toothFrom 12 = .ok (.iconst 1, 1) := by decide +kernel
theorem dX6_toothFrom_13 : decode cX6_toothFrom 13 = .ok (.isub, 1) := by decide +kernel
theorem dX6_toothFrom_14 : decode cX6_toothFrom 14 = .ok (.bipush 24, 2) := by decide +kernel
theorem dX6_toothFrom_16 : decode cX6_toothFrom 16 = .ok (.irem, 1) := by decide +kernel
theorem dX6_toothFrom_17 : decode cX6_toothFrom 17 = .ok (.ireturn, 1) := by decide +kernel
theorem dX6_next_0 : decode cX6_next 0 = .ok (.iload_n 0, 1) := by decide +kernel
theorem dX6_next_1 : decode cX6_next 1 = .ok (.iload_n 1, 1) := by decide +kernel
theorem dX6_next_2 : decode cX6_next 2 = .ok (.ifCond .eq 7, 3) := by decide +kernel
theorem dX6_next_5 : decode cX6_next 5 = .ok (.iconst 1, 1) := by decide +kernel
theorem dX6_next_6 : decode cX6_next 6 = .ok (.goto 5, 3) := by decide +kernel
theorem dX6_next_9 : decode cX6_next 9 = .ok (.bipush 23, 2) := by decide +kernel
theorem dX6_next_11 : decode cX6_next 11 = .ok (.iadd, 1) := by decide +kernel
theorem dX6_next_12 : decode cX6_next 12 = .ok (.bipush 24, 2) := by decide +kernel
theorem dX6_next_14 : decode cX6_next 14 = .ok (.irem, 1) := by decide +kernel
theorem dX6_next_15 : decode cX6_next 15 = .ok (.ireturn, 1) := by decide +kernel
theorem dX6_tollBy_0 : decode cX6_tollBy 0 = .ok (.iconst 1, 1) := by decide +kernel
theorem dX6_tollBy_1 : decode cX6_tollBy 1 = .ok (.aload_n 0, 1) := by decide +kernel
theorem dX6_tollBy_2 : decode cX6_tollBy 2 = .ok (.iload_n 1, 1) := by decide +kernel
theorem dX6_tollBy_3 : decode cX6_tollBy 3 = .ok (.iconst 2, 1) := by decide +kernel
theorem dX6_tollBy_4 : decode cX6_tollBy 4 = .ok (.invokevirtual 39, 3) := by decide +kernel
theorem dX6_tollBy_7 : decode cX6_tollBy 7 = .ok (.iadd, 1) := by decide +kernel
theorem dX6_tollBy_8 : decode cX6_tollBy 8 = .ok (.iload_n 2, 1) := by decide +kernel
theorem dX6_tollBy_9 : decode cX6_tollBy 9 = .ok (.aload_n 0, 1) := by decide +kernel
theorem dX6_tollBy_10 : decode cX6_tollBy 10 = .ok (.getfield 7, 3) := by decide +kernel
theorem dX6_tollBy_13 : decode cX6_tollBy 13 = .ok (.iconst 1, 1) := by decide +kernel
theorem dX6_tollBy_14 : decode cX6_tollBy 14 = .ok (.iaload, 1) := by decide +kernel
theorem dX6_tollBy_15 : decode cX6_tollBy 15 = .ok (.idiv, 1) := by decide +kernel
theorem dX6_tollBy_16 : decode cX6_tollBy 16 = .ok (.iadd, 1) := by decide +kernel
theorem dX6_tollBy_17 : decode cX6_tollBy 17 = .ok (.istore 4, 2) := by decide +kernel
theorem dX6_tollBy_19 : decode cX6_tollBy 19 = .ok (.iload_n 3, 1) := by decide +kernel
theorem dX6_tollBy_20 : decode cX6_tollBy 20 = .ok (.ifCond .le 12, 3) := by decide +kernel
theorem dX6_tollBy_23 : decode cX6_tollBy 23 = .ok (.iload 4, 2) := by decide +kernel
theorem dX6_tollBy_25 : decode cX6_tollBy 25 = .ok (.iconst 1, 1) := by decide +kernel
theorem dX6_tollBy_26 : decode cX6_tollBy 26 = .ok (.iadd, 1) := by decide +kernel
theorem dX6_tollBy_27 : decode cX6_tollBy 27 = .ok (.iconst 2, 1) := by decide +kernel
theorem dX6_tollBy_28 : decode cX6_tollBy 28 = .ok (.idiv, 1) := by decide +kernel
theorem dX6_tollBy_29 : decode cX6_tollBy 29 = .ok (.goto 5, 3) := by decide +kernel
theorem dX6_tollBy_32 : decode cX6_tollBy 32 = .ok (.iload 4, 2) := by decide +kernel
theorem dX6_tollBy_34 : decode cX6_tollBy 34 = .ok (.ireturn, 1) := by decide +kernel
theorem dX6_nextTooth_0 : decode cX6_nextTooth 0 = .ok (.aload_n 0, 1) := by decide +kernel
theorem dX6_nextTooth_1 : decode cX6_nextTooth 1 = .ok (.iload_n 1, 1) := by decide +kernel
theorem dX6_nextTooth_2 : decode cX6_nextTooth 2 = .ok (.iconst 0, 1) := by decide +kernel
theorem dX6_nextTooth_3 : decode cX6_nextTooth 3 = .ok (.invokevirtual 39, 3) := by decide +kernel
theorem dX6_nextTooth_6 : decode cX6_nextTooth 6 = .ok (.iload_n 2, 1) := by decide +kernel
theorem dX6_nextTooth_7 : decode cX6_nextTooth 7 = .ok (.invokestatic 43, 3) := by decide +kernel
theorem dX6_nextTooth_10 : decode cX6_nextTooth 10 = .ok (.ireturn, 1) := by decide +kernel
theorem dX6_tollNow_0 : decode cX6_tollNow 0 = .ok (.aload_n 0, 1) := by decide +kernel
theorem dX6_tollNow_1 : decode cX6_tollNow 1 = .ok (.iload_n 1, 1) := by decide +kernel
theorem dX6_tollNow_2 : decode cX6_tollNow 2 = .ok (.aload_n 0, 1) := by decide +kernel
theorem dX6_tollNow_3 : decode cX6_tollNow 3 = .ok (.iload_n 1, 1) := by decide +kernel
theorem dX6_tollNow_4 : decode cX6_tollNow 4 = .ok (.bipush 11, 2) := by decide +kernel
theorem dX6_tollNow_6 : decode cX6_tollNow 6 = .ok (.aload_n 0, 1) := by decide +kernel
theorem dX6_tollNow_7 : decode cX6_tollNow 7 = .ok (.iload_n 1, 1) := by decide +kernel
theorem dX6_tollNow_8 : decode cX6_tollNow 8 = .ok (.iload_n 2, 1) := by decide +kernel
theorem dX6_tollNow_9 : decode cX6_tollNow 9 = .ok (.invokevirtual 47, 3) := by decide +kernel
theorem dX6_tollNow_12 : decode cX6_tollNow 12 = .ok (.iadd, 1) := by decide +kernel
theorem dX6_tollNow_13 : decode cX6_tollNow 13 = .ok (.invokevirtual 39, 3) := by decide +kernel
theorem dX6_tollNow_16 : decode cX6_tollNow 16 = .ok (.aload_n 0, 1) := by decide +kernel
theorem dX6_tollNow_17 : decode cX6_tollNow 17 = .ok (.iload_n 1, 1) := by decide +kernel
theorem dX6_tollNow_18 : decode cX6_tollNow 18 = .ok (.iconst 5, 1) := by decide +kernel
theorem dX6_tollNow_19 : decode cX6_tollNow 19 = .ok (.invokevirtual 39, 3) := by decide +kernel
theorem dX6_tollNow_22 : decode cX6_tollNow 22 = .ok (.invokevirtual 50, 3) := by decide +kernel
theorem dX6_tollNow_25 : decode cX6_tollNow 25 = .ok (.ireturn, 1) := by decide +kernel
theorem dX6_slipNow_0 : decode cX6_slipNow 0 = .ok (.aload_n 0, 1) := by decide +kernel
theorem dX6_slipNow_1 : decode cX6_slipNow 1 = .ok (.iload_n 1, 1) := by decide +kernel
theorem dX6_slipNow_2 : decode cX6_slipNow 2 = .ok (.iconst 3, 1) := by decide +kernel
theorem dX6_slipNow_3 : decode cX6_slipNow 3 = .ok (.invokevirtual 39, 3) := by decide +kernel
theorem dX6_slipNow_6 : decode cX6_slipNow 6 = .ok (.iload_n 2, 1) := by decide +kernel
theorem dX6_slipNow_7 : decode cX6_slipNow 7 = .ok (.ifCond .eq 7, 3) := by decide +kernel
theorem dX6_slipNow_10 : decode cX6_slipNow 10 = .ok (.iconst (-1), 1) := by decide +kernel
theorem dX6_slipNow_11 : decode cX6_slipNow 11 = .ok (.goto 4, 3) := by decide +kernel
theorem dX6_slipNow_14 : decode cX6_slipNow 14 = .ok (.iconst 1, 1) := by decide +kernel
theorem dX6_slipNow_15 : decode cX6_slipNow 15 = .ok (.if_icmp .ne 7, 3) := by decide +kernel
theorem dX6_slipNow_18 : decode cX6_slipNow 18 = .ok (.iconst 1, 1) := by decide +kernel
theorem dX6_slipNow_19 : decode cX6_slipNow 19 = .ok (.goto 4, 3) := by decide +kernel
theorem dX6_slipNow_22 : decode cX6_slipNow 22 = .ok (.iconst 0, 1) := by decide +kernel
theorem dX6_slipNow_23 : decode cX6_slipNow 23 = .ok (.istore_n 3, 1) := by decide +kernel
theorem dX6_slipNow_24 : decode cX6_slipNow 24 = .ok (.iload_n 3, 1) := by decide +kernel
theorem dX6_slipNow_25 : decode cX6_slipNow 25 = .ok (.ifCond .ne 7, 3) := by decide +kernel
theorem dX6_slipNow_28 : decode cX6_slipNow 28 = .ok (.iconst 0, 1) := by decide +kernel
theorem dX6_slipNow_29 : decode cX6_slipNow 29 = .ok (.goto 31, 3) := by decide +kernel
theorem dX6_slipNow_32 : decode cX6_slipNow 32 = .ok (.aload_n 0, 1) := by decide +kernel
theorem dX6_slipNow_33 : decode cX6_slipNow 33 = .ok (.iload_n 1, 1) := by decide +kernel
theorem dX6_slipNow_34 : decode cX6_slipNow 34 = .ok (.bipush 11, 2) := by decide +kernel
theorem dX6_slipNow_36 : decode cX6_slipNow 36 = .ok (.aload_n 0, 1) := by decide +kernel
theorem dX6_slipNow_37 : decode cX6_slipNow 37 = .ok (.iload_n 1, 1) := by decide +kernel
theorem dX6_slipNow_38 : decode cX6_slipNow 38 = .ok (.iload_n 2, 1) := by decide +kernel
theorem dX6_slipNow_39 : decode cX6_slipNow 39 = .ok (.invokevirtual 47, 3) := by decide +kernel
theorem dX6_slipNow_42 : decode cX6_slipNow 42 = .ok (.iadd, 1) := by decide +kernel
theorem dX6_slipNow_43 : decode cX6_slipNow 43 = .ok (.invokevirtual 39, 3) := by decide +kernel
theorem dX6_slipNow_46 : decode cX6_slipNow 46 = .ok (.aload_n 0, 1) := by decide +kernel
theorem dX6_slipNow_47 : decode cX6_slipNow 47 = .ok (.getfield 7, 3) := by decide +kernel
theorem dX6_slipNow_50 : decode cX6_slipNow 50 = .ok (.iconst 2, 1) := by decide +kernel
theorem dX6_slipNow_51 : decode cX6_slipNow 51 = .ok (.iaload, 1) := by decide +kernel
theorem dX6_slipNow_52 : decode cX6_slipNow 52 = .ok (.if_icmp .lt 7, 3) := by decide +kernel
theorem dX6_slipNow_55 : decode cX6_slipNow 55 = .ok (.iconst 2, 1) := by decide +kernel
theorem dX6_slipNow_56 : decode cX6_slipNow 56 = .ok (.goto 4, 3) := by decide +kernel
theorem dX6_slipNow_59 : decode cX6_slipNow 59 = .ok (.iconst 1, 1) := by decide +kernel
theorem dX6_slipNow_60 : decode cX6_slipNow 60 = .ok (.ireturn, 1) := by decide +kernel
theorem dX6_canStep_0 : decode cX6_canStep 0 = .ok (.aload_n 0, 1) := by decide +kernel
theorem dX6_canStep_1 : decode cX6_canStep 1 = .ok (.getfield 7, 3) := by decide +kernel
theorem dX6_canStep_4 : decode cX6_canStep 4 = .ok (.bipush 6, 2) := by decide +kernel
theorem dX6_canStep_6 : decode cX6_canStep 6 = .ok (.iaload, 1) := by decide +kernel
theorem dX6_canStep_7 : decode cX6_canStep 7 = .ok (.aload_n 0, 1) := by decide +kernel
theorem dX6_canStep_8 : decode cX6_canStep 8 = .ok (.iload_n 1, 1) := by decide +kernel
theorem dX6_canStep_9 : decode cX6_canStep 9 = .ok (.iload_n 2, 1) := by decide +kernel
theorem dX6_canStep_10 : decode cX6_canStep 10 = .ok (.invokevirtual 54, 3) := by decide +kernel
theorem dX6_canStep_13 : decode cX6_canStep 13 = .ok (.if_icmp .lt 7, 3) := by decide +kernel
theorem dX6_canStep_16 : decode cX6_canStep 16 = .ok (.iconst 1, 1) := by decide +kernel
theorem dX6_canStep_17 : decode cX6_canStep 17 = .ok (.goto 4, 3) := by decide +kernel
theorem dX6_canStep_20 : decode cX6_canStep 20 = .ok (.iconst 0, 1) := by decide +kernel
theorem dX6_canStep_21 : decode cX6_canStep 21 = .ok (.ireturn, 1) := by decide +kernel
theorem dX6_steps_0 : decode cX6_steps 0 = .ok (.aload_n 0, 1) := by decide +kernel
theorem dX6_steps_1 : decode cX6_steps 1 = .ok (.iload_n 1, 1) := by decide +kernel
theorem dX6_steps_2 : decode cX6_steps 2 = .ok (.iload_n 2, 1) := by decide +kernel
theorem dX6_steps_3 : decode cX6_steps 3 = .ok (.invokevirtual 54, 3) := by decide +kernel
theorem dX6_steps_6 : decode cX6_steps 6 = .ok (.istore_n 3, 1) := by decide +kernel
theorem dX6_steps_7 : decode cX6_steps 7 = .ok (.aload_n 0, 1) := by decide +kernel
theorem dX6_steps_8 : decode cX6_steps 8 = .ok (.iload_n 1, 1) := by decide +kernel
theorem dX6_steps_9 : decode cX6_steps 9 = .ok (.iload_n 2, 1) := by decide +kernel
theorem dX6_steps_10 : decode cX6_steps 10 = .ok (.invokevirtual 57, 3) := by decide +kernel
theorem dX6_steps_13 : decode cX6_steps 13 = .ok (.istore 4, 2) := by decide +kernel
theorem dX6_steps_15 : decode cX6_steps 15 = .ok (.aload_n 0, 1) := by decide +kernel
theorem dX6_steps_16 : decode cX6_steps 16 = .ok (.iload_n 1, 1) := by decide +kernel
theorem dX6_steps_17 : decode cX6_steps 17 = .ok (.iload_n 2, 1) := by decide +kernel
theorem dX6_steps_18 : decode cX6_steps 18 = .ok (.invokevirtual 47, 3) := by decide +kernel
theorem dX6_steps_21 : decode cX6_steps 21 = .ok (.istore 5, 2) := by decide +kernel
theorem dX6_steps_23 : decode cX6_steps 23 = .ok (.aload_n 0, 1) := by decide +kernel
theorem dX6_steps_24 : decode cX6_steps 24 = .ok (.getfield 7, 3) := by decide +kernel
theorem dX6_steps_27 : decode cX6_steps 27 = .ok (.bipush 6, 2) := by decide +kernel
theorem dX6_steps_29 : decode cX6_steps 29 = .ok (.iaload, 1) := by decide +kernel
theorem dX6_steps_30 : decode cX6_steps 30 = .ok (.iload_n 3, 1) := by decide +kernel
theorem dX6_steps_31 : decode cX6_steps 31 = .ok (.if_icmp .ge 5, 3) := by decide +kernel
theorem dX6_steps_34 : decode cX6_steps 34 = .ok (.iconst 0, 1) := by decide +kernel
theorem dX6_steps_35 : decode cX6_steps 35 = .ok (.ireturn, 1) := by decide +kernel
theorem dX6_steps_36 : decode cX6_steps 36 = .ok (.aload_n 0, 1) := by decide +kernel
theorem dX6_steps_37 : decode cX6_steps 37 = .ok (.getfield 7, 3) := by decide +kernel
theorem dX6_steps_40 : decode cX6_steps 40 = .ok (.bipush 6, 2) := by decide +kernel
theorem dX6_steps_42 : decode cX6_steps 42 = .ok (.dup2, 1) := by decide +kernel
theorem dX6_steps_43 : decode cX6_steps 43 = .ok (.iaload, 1) := by decide +kernel
theorem dX6_steps_44 : decode cX6_steps 44 = .ok (.iload_n 3, 1) := by decide +kernel
theorem dX6_steps_45 : decode cX6_steps 45 = .ok (.isub, 1) := by decide +kernel
theorem dX6_steps_46 : decode cX6_steps 46 = .ok (.iastore, 1) := by decide +kernel
theorem dX6_steps_47 : decode cX6_steps 47 = .ok (.aload_n 0, 1) := by decide +kernel
theorem dX6_steps_48 : decode cX6_steps 48 = .ok (.iload_n 1, 1) := by decide +kernel
theorem dX6_steps_49 : decode cX6_steps 49 = .ok (.bipush 8, 2) := by decide +kernel
theorem dX6_steps_51 : decode cX6_steps 51 = .ok (.iload_n 3, 1) := by decide +kernel
theorem dX6_steps_52 : decode cX6_steps 52 = .ok (.invokevirtual 60, 3) := by decide +kernel
theorem dX6_steps_55 : decode cX6_steps 55 = .ok (.aload_n 0, 1) := by decide +kernel
theorem dX6_steps_56 : decode cX6_steps 56 = .ok (.iload_n 1, 1) := by decide +kernel
theorem dX6_steps_57 : decode cX6_steps 57 = .ok (.bipush 6, 2) := by decide +kernel
theorem dX6_steps_59 : decode cX6_steps 59 = .ok (.iconst 1, 1) := by decide +kernel
theorem dX6_steps_60 : decode cX6_steps 60 = .ok (.invokevirtual 60, 3) := by decide +kernel
theorem dX6_steps_63 : decode cX6_steps 63 = .ok (.aload_n 0, 1) := by decide +kernel
theorem dX6_steps_64 : decode cX6_steps 64 = .ok (.iload_n 1, 1) := by decide +kernel
theorem dX6_steps_65 : decode cX6_steps 65 = .ok (.iconst 5, 1) := by decide +kernel
theorem dX6_steps_66 : decode cX6_steps 66 = .ok (.aload_n 0, 1) := by decide +kernel
theorem dX6_steps_67 : decode cX6_steps 67 = .ok (.iload_n 1, 1) := by decide +kernel
theorem dX6_steps_68 : decode cX6_steps 68 = .ok (.iconst 5, 1) := by decide +kernel
theorem dX6_steps_69 : decode cX6_steps 69 = .ok (.invokevirtual 39, 3) := by decide +kernel
theorem dX6_steps_72 : decode cX6_steps 72 = .ok (.ifCond .le 7, 3) := by decide +kernel
theorem dX6_steps_75 : decode cX6_steps 75 = .ok (.iconst (-1), 1) := by decide +kernel
theorem dX6_steps_76 : decode cX6_steps 76 = .ok (.goto 4, 3) := by decide +kernel
theorem dX6_steps_79 : decode cX6_steps 79 = .ok (.iconst 0, 1) := by decide +kernel
theorem dX6_steps_80 : decode cX6_steps 80 = .ok (.invokevirtual 60, 3) := by decide +kernel
theorem dX6_steps_83 : decode cX6_steps 83 = .ok (.aload_n 0, 1) := by decide +kernel
theorem dX6_steps_84 : decode cX6_steps 84 = .ok (.iload_n 1, 1) := by decide +kernel
theorem dX6_steps_85 : decode cX6_steps 85 = .ok (.bipush 9, 2) := by decide +kernel
theorem dX6_steps_87 : decode cX6_steps 87 = .ok (.iload 4, 2) := by decide +kernel
theorem dX6_steps_89 : decode cX6_steps 89 = .ok (.ifCond .le 7, 3) := by decide +kernel
theorem dX6_steps_92 : decode cX6_steps 92 = .ok (.iconst 1, 1) := by decide +kernel
theorem dX6_steps_93 : decode cX6_steps 93 = .ok (.goto 4, 3) := by decide +kernel
theorem dX6_steps_96 : decode cX6_steps 96 = .ok (.iconst 0, 1) := by decide +kernel
theorem dX6_steps_97 : decode cX6_steps 97 = .ok (.invokevirtual 60, 3) := by decide +kernel
theorem dX6_steps_100 : decode cX6_steps 100 = .ok (.aload_n 0, 1) := by decide +kernel
theorem dX6_steps_101 : decode cX6_steps 101 = .ok (.iload_n 1, 1) := by decide +kernel
theorem dX6_steps_102 : decode cX6_steps 102 = .ok (.iconst 4, 1) := by decide +kernel
theorem dX6_steps_103 : decode cX6_steps 103 = .ok (.iload 4, 2) := by decide +kernel
theorem dX6_steps_105 : decode cX6_steps 105 = .ok (.ifCond .le 18, 3) := by decide +kernel
theorem dX6_steps_108 : decode cX6_steps 108 = .ok (.aload_n 0, 1) := by decide +kernel
theorem dX6_steps_109 : decode cX6_steps 109 = .ok (.iload_n 1, 1) := by decide +kernel
theorem dX6_steps_110 : decode cX6_steps 110 = .ok (.iconst 4, 1) := by decide +kernel
theorem dX6_steps_111 : decode cX6_steps 111 = .ok (.invokevirtual 39, 3) := by decide +kernel
theorem dX6_steps_114 : decode cX6_steps 114 = .ok (.bipush 12, 2) := by decide +kernel
theorem dX6_steps_116 : decode cX6_steps 116 = .ok (.if_icmp .ge 7, 3) := by decide +kernel
theorem dX6_steps_119 : decode cX6_steps 119 = .ok (.iconst 1, 1) := by decide +kernel
theorem dX6_steps_120 : decode cX6_steps 120 = .ok (.goto 4, 3) := by decide +kernel
theorem dX6_steps_123 : decode cX6_steps 123 = .ok (.iconst 0, 1) := by decide +kernel
theorem dX6_steps_124 : decode cX6_steps 124 = .ok (.invokevirtual 60, 3) := by decide +kernel
theorem dX6_steps_127 : decode cX6_steps 127 = .ok (.aload_n 0, 1) := by decide +kernel
theorem dX6_steps_128 : decode cX6_steps 128 = .ok (.iload_n 1, 1) := by decide +kernel
theorem dX6_steps_129 : decode cX6_steps 129 = .ok (.bipush 7, 2) := by decide +kernel
theorem dX6_steps_131 : decode cX6_steps 131 = .ok (.iload 4, 2) := by decide +kernel
theorem dX6_steps_133 : decode cX6_steps 133 = .ok (.iconst 2, 1) := by decide +kernel
theorem dX6_steps_134 : decode cX6_steps 134 = .ok (.if_icmp .ne 7, 3) := by decide +kernel
theorem dX6_steps_137 : decode cX6_steps 137 = .ok (.iconst 1, 1) := by decide +kernel
theorem dX6_steps_138 : decode cX6_steps 138 = .ok (.goto 4, 3) := by decide +kernel
theorem dX6_steps_141 : decode cX6_steps 141 = .ok (.iconst 0, 1) := by decide +kernel
theorem dX6_steps_142 : decode cX6_steps 142 = .ok (.invokevirtual 60, 3) := by decide +kernel
theorem dX6_steps_145 : decode cX6_steps 145 = .ok (.aload_n 0, 1) := by decide +kernel
theorem dX6_steps_146 : decode cX6_steps 146 = .ok (.iload_n 1, 1) := by decide +kernel
theorem dX6_steps_147 : decode cX6_steps 147 = .ok (.iconst 1, 1) := by decide +kernel
theorem dX6_steps_148 : decode cX6_steps 148 = .ok (.aload_n 0, 1) := by decide +kernel
theorem dX6_steps_149 : decode cX6_steps 149 = .ok (.iload_n 1, 1) := by decide +kernel
theorem dX6_steps_150 : decode cX6_steps 150 = .ok (.iconst 1, 1) := by decide +kernel
theorem dX6_steps_151 : decode cX6_steps 151 = .ok (.invokevirtual 39, 3) := by decide +kernel
theorem dX6_steps_154 : decode cX6_steps 154 = .ok (.iload_n 2, 1) := by decide +kernel
theorem dX6_steps_155 : decode cX6_steps 155 = .ok (.invokestatic 64, 3) := by decide +kernel
theorem dX6_steps_158 : decode cX6_steps 158 = .ok (.invokevirtual 67, 3) := by decide +kernel
theorem dX6_steps_161 : decode cX6_steps 161 = .ok (.aload_n 0, 1) := by decide +kernel
theorem dX6_steps_162 : decode cX6_steps 162 = .ok (.iload_n 1, 1) := by decide +kernel
theorem dX6_steps_163 : decode cX6_steps 163 = .ok (.iconst 0, 1) := by decide +kernel
theorem dX6_steps_164 : decode cX6_steps 164 = .ok (.iload 4, 2) := by decide +kernel
theorem dX6_steps_166 : decode cX6_steps 166 = .ok (.iconst 2, 1) := by decide +kernel
theorem dX6_steps_167 : decode cX6_steps 167 = .ok (.if_icmp .ne 12, 3) := by decide +kernel
theorem dX6_steps_170 : decode cX6_steps 170 = .ok (.aload_n 0, 1) := by decide +kernel
theorem dX6_steps_171 : decode cX6_steps 171 = .ok (.iload_n 1, 1) := by decide +kernel
theorem dX6_steps_172 : decode cX6_steps 172 = .ok (.iconst 0, 1) := by decide +kernel
theorem dX6_steps_173 : decode cX6_steps 173 = .ok (.invokevirtual 39, 3) := by decide +kernel
theorem dX6_steps_176 : decode cX6_steps 176 = .ok (.goto 13, 3) := by decide +kernel
theorem dX6_steps_179 : decode cX6_steps 179 = .ok (.aload_n 0, 1) := by decide +kernel
theorem dX6_steps_180 : decode cX6_steps 180 = .ok (.iload_n 1, 1) := by decide +kernel
theorem dX6_steps_181 : decode cX6_steps 181 = .ok (.iconst 0, 1) := by decide +kernel
theorem dX6_steps_182 : decode cX6_steps 182 = .ok (.invokevirtual 39, 3) := by decide +kernel
theorem dX6_steps_185 : decode cX6_steps 185 = .ok (.iload_n 2, 1) := by decide +kernel
theorem dX6_steps_186 : decode cX6_steps 186 = .ok (.invokestatic 64, 3) := by decide +kernel
theorem dX6_steps_189 : decode cX6_steps 189 = .ok (.invokevirtual 67, 3) := by decide +kernel
theorem dX6_steps_192 : decode cX6_steps 192 = .ok (.aload_n 0, 1) := by decide +kernel
theorem dX6_steps_193 : decode cX6_steps 193 = .ok (.iload_n 1, 1) := by decide +kernel
theorem dX6_steps_194 : decode cX6_steps 194 = .ok (.bipush 11, 2) := by decide +kernel
theorem dX6_steps_196 : decode cX6_steps 196 = .ok (.iload 5, 2) := by decide +kernel
theorem dX6_steps_198 : decode cX6_steps 198 = .ok (.iadd, 1) := by decide +kernel
theorem dX6_steps_199 : decode cX6_steps 199 = .ok (.invokevirtual 39, 3) := by decide +kernel
theorem dX6_steps_202 : decode cX6_steps 202 = .ok (.aload_n 0, 1) := by decide +kernel
theorem dX6_steps_203 : decode cX6_steps 203 = .ok (.getfield 7, 3) := by decide +kernel
theorem dX6_steps_206 : decode cX6_steps 206 = .ok (.iconst 0, 1) := by decide +kernel
theorem dX6_steps_207 : decode cX6_steps 207 = .ok (.iaload, 1) := by decide +kernel
theorem dX6_steps_208 : decode cX6_steps 208 = .ok (.iadd, 1) := by decide +kernel
theorem dX6_steps_209 : decode cX6_steps 209 = .ok (.istore 6, 2) := by decide +kernel
theorem dX6_steps_211 : decode cX6_steps 211 = .ok (.aload_n 0, 1) := by decide +kernel
theorem dX6_steps_212 : decode cX6_steps 212 = .ok (.iload_n 1, 1) := by decide +kernel
theorem dX6_steps_213 : decode cX6_steps 213 = .ok (.bipush 11, 2) := by decide +kernel
theorem dX6_steps_215 : decode cX6_steps 215 = .ok (.iload 5, 2) := by decide +kernel
theorem dX6_steps_217 : decode cX6_steps 217 = .ok (.iadd, 1) := by decide +kernel
theorem dX6_steps_218 : decode cX6_steps 218 = .ok (.iload 6, 2) := by decide +kernel
theorem dX6_steps_220 : decode cX6_steps 220 = .ok (.bipush 99, 2) := by decide +kernel
theorem dX6_steps_222 : decode cX6_steps 222 = .ok (.if_icmp .le 8, 3) := by decide +kernel
theorem dX6_steps_225 : decode cX6_steps 225 = .ok (.bipush 99, 2) := by decide +kernel
theorem dX6_steps_227 : decode cX6_steps 227 = .ok (.goto 5, 3) := by decide +kernel
theorem dX6_steps_230 : decode cX6_steps 230 = .ok (.iload 6, 2) := by decide +kernel
theorem dX6_steps_232 : decode cX6_steps 232 = .ok (.invokevirtual 67, 3) := by decide +kernel
theorem dX6_steps_235 : decode cX6_steps 235 = .ok (.aload_n 0, 1) := by decide +kernel
theorem dX6_steps_236 : decode cX6_steps 236 = .ok (.iload_n 1, 1) := by decide +kernel
theorem dX6_steps_237 : decode cX6_steps 237 = .ok (.iconst 3, 1) := by decide +kernel
theorem dX6_steps_238 : decode cX6_steps 238 = .ok (.iload_n 2, 1) := by decide +kernel
theorem dX6_steps_239 : decode cX6_steps 239 = .ok (.ifCond .eq 7, 3) := by decide +kernel
theorem dX6_steps_242 : decode cX6_steps 242 = .ok (.iconst 1, 1) := by decide +kernel
theorem dX6_steps_243 : decode cX6_steps 243 = .ok (.goto 4, 3) := by decide +kernel
theorem dX6_steps_246 : decode cX6_steps 246 = .ok (.iconst (-1), 1) := by decide +kernel
theorem dX6_steps_247 : decode cX6_steps 247 = .ok (.invokevirtual 67, 3) := by decide +kernel
theorem dX6_steps_250 : decode cX6_steps 250 = .ok (.iconst 1, 1) := by decide +kernel
theorem dX6_steps_251 : decode cX6_steps 251 = .ok (.ireturn, 1) := by decide +kernel
theorem dX6_earn_0 : decode cX6_earn 0 = .ok (.aload_n 0, 1) := by decide +kernel
theorem dX6_earn_1 : decode cX6_earn 1 = .ok (.iload_n 1, 1) := by decide +kernel
theorem dX6_earn_2 : decode cX6_earn 2 = .ok (.iconst 1, 1) := by decide +kernel
theorem dX6_earn_3 : decode cX6_earn 3 = .ok (.sipush 10000, 3) := by decide +kernel
theorem dX6_earn_6 : decode cX6_earn 6 = .ok (.invokestatic 35, 3) := by decide +kernel
theorem dX6_earn_9 : decode cX6_earn 9 = .ok (.ifCond .ne 7, 3) := by decide +kernel
theorem dX6_earn_12 : decode cX6_earn 12 = .ok (.iconst 1, 1) := by decide +kernel
theorem dX6_earn_13 : decode cX6_earn 13 = .ok (.goto 22, 3) := by decide +kernel
theorem dX6_earn_16 : decode cX6_earn 16 = .ok (.aload_n 0, 1) := by decide +kernel
theorem dX6_earn_17 : decode cX6_earn 17 = .ok (.getfield 7, 3) := by decide +kernel
theorem dX6_earn_20 : decode cX6_earn 20 = .ok (.bipush 6, 2) := by decide +kernel
theorem dX6_earn_22 : decode cX6_earn 22 = .ok (.iaload, 1) := by decide +kernel
theorem dX6_earn_23 : decode cX6_earn 23 = .ok (.iload_n 1, 1) := by decide +kernel
theorem dX6_earn_24 : decode cX6_earn 24 = .ok (.iadd, 1) := by decide +kernel
theorem dX6_earn_25 : decode cX6_earn 25 = .ok (.ldc 70, 2) := by decide +kernel
theorem dX6_earn_27 : decode cX6_earn 27 = .ok (.if_icmp .le 7, 3) := by decide +kernel
theorem dX6_earn_30 : decode cX6_earn 30 = .ok (.iconst 2, 1) := by decide +kernel
theorem dX6_earn_31 : decode cX6_earn 31 = .ok (.goto 4, 3) := by decide +kernel
theorem dX6_earn_34 : decode cX6_earn 34 = .ok (.iconst 0, 1) := by decide +kernel
theorem dX6_earn_35 : decode cX6_earn 35 = .ok (.putfield 29, 3) := by decide +kernel
theorem dX6_earn_38 : decode cX6_earn 38 = .ok (.aload_n 0, 1) := by decide +kernel
theorem dX6_earn_39 : decode cX6_earn 39 = .ok (.getfield 29, 3) := by decide +kernel
theorem dX6_earn_42 : decode cX6_earn 42 = .ok (.ifCond .le 5, 3) := by decide +kernel
theorem dX6_earn_45 : decode cX6_earn 45 = .ok (.iconst 0, 1) := by decide +kernel
theorem dX6_earn_46 : decode cX6_earn 46 = .ok (.ireturn, 1) := by decide +kernel
theorem dX6_earn_47 : decode cX6_earn 47 = .ok (.aload_n 0, 1) := by decide +kernel
theorem dX6_earn_48 : decode cX6_earn 48 = .ok (.invokevirtual 71, 3) := by decide +kernel
theorem dX6_earn_51 : decode cX6_earn 51 = .ok (.aload_n 0, 1) := by decide +kernel
theorem dX6_earn_52 : decode cX6_earn 52 = .ok (.getfield 7, 3) := by decide +kernel
theorem dX6_earn_55 : decode cX6_earn 55 = .ok (.bipush 6, 2) := by decide +kernel
theorem dX6_earn_57 : decode cX6_earn 57 = .ok (.dup2, 1) := by decide +kernel
theorem dX6_earn_58 : decode cX6_earn 58 = .ok (.iaload, 1) := by decide +kernel
theorem dX6_earn_59 : decode cX6_earn 59 = .ok (.iload_n 1, 1) := by decide +kernel
theorem dX6_earn_60 : decode cX6_earn 60 = .ok (.iadd, 1) := by decide +kernel
theorem dX6_earn_61 : decode cX6_earn 61 = .ok (.iastore, 1) := by decide +kernel
theorem dX6_earn_62 : decode cX6_earn 62 = .ok (.aload_n 0, 1) := by decide +kernel
theorem dX6_earn_63 : decode cX6_earn 63 = .ok (.getfield 7, 3) := by decide +kernel
theorem dX6_earn_66 : decode cX6_earn 66 = .ok (.bipush 6, 2) := by decide +kernel
theorem dX6_earn_68 : decode cX6_earn 68 = .ok (.iaload, 1) := by decide +kernel
theorem dX6_earn_69 : decode cX6_earn 69 = .ok (.ireturn, 1) := by decide +kernel
theorem dX6_load_0 : decode cX6_load 0 = .ok (.aload_n 0, 1) := by decide +kernel
theorem dX6_load_1 : decode cX6_load 1 = .ok (.iload_n 1, 1) := by decide +kernel
theorem dX6_load_2 : decode cX6_load 2 = .ok (.invokestatic 74, 3) := by decide +kernel
theorem dX6_load_5 : decode cX6_load 5 = .ok (.ifCond .ne 7, 3) := by decide +kernel
theorem dX6_load_8 : decode cX6_load 8 = .ok (.iconst 1, 1) := by decide +kernel
theorem dX6_load_9 : decode cX6_load 9 = .ok (.goto 17, 3) := by decide +kernel
theorem dX6_load_12 : decode cX6_load 12 = .ok (.iload_n 2, 1) := by decide +kernel
theorem dX6_load_13 : decode cX6_load 13 = .ok (.iconst 0, 1) := by decide +kernel
theorem dX6_load_14 : decode cX6_load 14 = .ok (.iconst 5, 1) := by decide +kernel
theorem dX6_load_15 : decode cX6_load 15 = .ok (.invokestatic 35, 3) := by decide +kernel
theorem dX6_load_18 : decode cX6_load 18 = .ok (.ifCond .eq 7, 3) := by decide +kernel
theorem dX6_load_21 : decode cX6_load 21 = .ok (.iconst 0, 1) := by decide +kernel
theorem dX6_load_22 : decode cX6_load 22 = .ok (.goto 4, 3) := by decide +kernel
theorem dX6_load_25 : decode cX6_load 25 = .ok (.iconst 2, 1) := by decide +kernel
theorem dX6_load_26 : decode cX6_load 26 = .ok (.putfield 29, 3) := by decide +kernel
theorem dX6_load_29 : decode cX6_load 29 = .ok (.aload_n 0, 1) := by decide +kernel
theorem dX6_load_30 : decode cX6_load 30 = .ok (.getfield 29, 3) := by decide +kernel
theorem dX6_load_33 : decode cX6_load 33 = .ok (.ifCond .le 5, 3) := by decide +kernel
theorem dX6_load_36 : decode cX6_load 36 = .ok (.iconst 0, 1) := by decide +kernel
theorem dX6_load_37 : decode cX6_load 37 = .ok (.ireturn, 1) := by decide +kernel
theorem dX6_load_38 : decode cX6_load 38 = .ok (.aload_n 0, 1) := by decide +kernel
theorem dX6_load_39 : decode cX6_load 39 = .ok (.invokevirtual 71, 3) := by decide +kernel
theorem dX6_load_42 : decode cX6_load 42 = .ok (.aload_n 0, 1) := by decide +kernel
theorem dX6_load_43 : decode cX6_load 43 = .ok (.iload_n 1, 1) := by decide +kernel
theorem dX6_load_44 : decode cX6_load 44 = .ok (.iconst 2, 1) := by decide +kernel
theorem dX6_load_45 : decode cX6_load 45 = .ok (.invokevirtual 39, 3) := by decide +kernel
theorem dX6_load_48 : decode cX6_load 48 = .ok (.istore_n 3, 1) := by decide +kernel
theorem dX6_load_49 : decode cX6_load 49 = .ok (.aload_n 0, 1) := by decide +kernel
theorem dX6_load_50 : decode cX6_load 50 = .ok (.iload_n 1, 1) := by decide +kernel
theorem dX6_load_51 : decode cX6_load 51 = .ok (.iconst 2, 1) := by decide +kernel
theorem dX6_load_52 : decode cX6_load 52 = .ok (.iload_n 2, 1) := by decide +kernel
theorem dX6_load_53 : decode cX6_load 53 = .ok (.invokevirtual 67, 3) := by decide +kernel
theorem dX6_load_56 : decode cX6_load 56 = .ok (.iload_n 3, 1) := by decide +kernel
theorem dX6_load_57 : decode cX6_load 57 = .ok (.ireturn, 1) := by decide +kernel
theorem dX6_isSetting_0 : decode cX6_isSetting 0 = .ok (.iload_n 0, 1) := by decide +kernel
theorem dX6_isSetting_1 : decode cX6_isSetting 1 = .ok (.iconst 0, 1) := by decide +kernel
theorem dX6_isSetting_2 : decode cX6_isSetting 2 = .ok (.iconst 5, 1) := by decide +kernel
theorem dX6_isSetting_3 : decode cX6_isSetting 3 = .ok (.invokestatic 35, 3) := by decide +kernel
theorem dX6_isSetting_6 : decode cX6_isSetting 6 = .ok (.ireturn, 1) := by decide +kernel
theorem dX6_isValue_0 : decode cX6_isValue 0 = .ok (.iload_n 0, 1) := by decide +kernel
theorem dX6_isValue_1 : decode cX6_isValue 1 = .ok (.tableswitch 68 1 5 #[35, 43, 68, 51, 59], 35) := by decide +kernel
theorem dX6_isValue_36 : decode cX6_isValue 36 = .ok (.iload_n 1, 1) := by decide +kernel
theorem dX6_isValue_37 : decode cX6_isValue 37 = .ok (.iconst 1, 1) := by decide +kernel
theorem dX6_isValue_38 : decode cX6_isValue 38 = .ok (.bipush 50, 2) := by decide +kernel
theorem dX6_isValue_40 : decode cX6_isValue 40 = .ok (.invokestatic 35, 3) := by decide +kernel
theorem dX6_isValue_43 : decode cX6_isValue 43 = .ok (.ireturn, 1) := by decide +kernel
theorem dX6_isValue_44 : decode cX6_isValue 44 = .ok (.iload_n 1, 1) := by decide +kernel
theorem dX6_isValue_45 : decode cX6_isValue 45 = .ok (.iconst 1, 1) := by decide +kernel
theorem dX6_isValue_46 : decode cX6_isValue 46 = .ok (.bipush 99, 2) := by decide +kernel
theorem dX6_isValue_48 : decode cX6_isValue 48 = .ok (.invokestatic 35, 3) := by decide +kernel
theorem dX6_isValue_51 : decode cX6_isValue 51 = .ok (.ireturn, 1) := by decide +kernel
theorem dX6_isValue_52 : decode cX6_isValue 52 = .ok (.iload_n 1, 1) := by decide +kernel
theorem dX6_isValue_53 : decode cX6_isValue 53 = .ok (.iconst 0, 1) := by decide +kernel
theorem dX6_isValue_54 : decode cX6_isValue 54 = .ok (.bipush 100, 2) := by decide +kernel
theorem dX6_isValue_56 : decode cX6_isValue 56 = .ok (.invokestatic 35, 3) := by decide +kernel
theorem dX6_isValue_59 : decode cX6_isValue 59 = .ok (.ireturn, 1) := by decide +kernel
theorem dX6_isValue_60 : decode cX6_isValue 60 = .ok (.iload_n 1, 1) := by decide +kernel
theorem dX6_isValue_61 : decode cX6_isValue 61 = .ok (.iconst 0, 1) := by decide +kernel
theorem dX6_isValue_62 : decode cX6_isValue 62 = .ok (.sipush 200, 3) := by decide +kernel
theorem dX6_isValue_65 : decode cX6_isValue 65 = .ok (.invokestatic 35, 3) := by decide +kernel
theorem dX6_isValue_68 : decode cX6_isValue 68 = .ok (.ireturn, 1) := by decide +kernel
theorem dX6_isValue_69 : decode cX6_isValue 69 = .ok (.iload_n 1, 1) := by decide +kernel
theorem dX6_isValue_70 : decode cX6_isValue 70 = .ok (.iconst 0, 1) := by decide +kernel
theorem dX6_isValue_71 : decode cX6_isValue 71 = .ok (.bipush 20, 2) := by decide +kernel
theorem dX6_isValue_73 : decode cX6_isValue 73 = .ok (.invokestatic 35, 3) := by decide +kernel
theorem dX6_isValue_76 : decode cX6_isValue 76 = .ok (.ireturn, 1) := by decide +kernel
theorem dX6_set_0 : decode cX6_set 0 = .ok (.aload_n 0, 1) := by decide +kernel
theorem dX6_set_1 : decode cX6_set 1 = .ok (.iload_n 1, 1) := by decide +kernel
theorem dX6_set_2 : decode cX6_set 2 = .ok (.invokestatic 78, 3) := by decide +kernel
theorem dX6_set_5 : decode cX6_set 5 = .ok (.ifCond .ne 7, 3) := by decide +kernel
theorem dX6_set_8 : decode cX6_set 8 = .ok (.iconst 1, 1) := by decide +kernel
theorem dX6_set_9 : decode cX6_set 9 = .ok (.goto 16, 3) := by decide +kernel
theorem dX6_set_12 : decode cX6_set 12 = .ok (.iload_n 1, 1) := by decide +kernel
theorem dX6_set_13 : decode cX6_set 13 = .ok (.iload_n 2, 1) := by decide +kernel
theorem dX6_set_14 : decode cX6_set 14 = .ok (.invokestatic 81, 3) := by decide +kernel
theorem dX6_set_17 : decode cX6_set 17 = .ok (.ifCond .eq 7, 3) := by decide +kernel
theorem dX6_set_20 : decode cX6_set 20 = .ok (.iconst 0, 1) := by decide +kernel
theorem dX6_set_21 : decode cX6_set 21 = .ok (.goto 4, 3) := by decide +kernel
theorem dX6_set_24 : decode cX6_set 24 = .ok (.iconst 2, 1) := by decide +kernel
theorem dX6_set_25 : decode cX6_set 25 = .ok (.putfield 29, 3) := by decide +kernel
theorem dX6_set_28 : decode cX6_set 28 = .ok (.aload_n 0, 1) := by decide +kernel
theorem dX6_set_29 : decode cX6_set 29 = .ok (.getfield 29, 3) := by decide +kernel
theorem dX6_set_32 : decode cX6_set 32 = .ok (.ifCond .le 5, 3) := by decide +kernel
theorem dX6_set_35 : decode cX6_set 35 = .ok (.iconst 0, 1) := by decide +kernel
theorem dX6_set_36 : decode cX6_set 36 = .ok (.ireturn, 1) := by decide +kernel
theorem dX6_set_37 : decode cX6_set 37 = .ok (.aload_n 0, 1) := by decide +kernel
theorem dX6_set_38 : decode cX6_set 38 = .ok (.invokevirtual 71, 3) := by decide +kernel
theorem dX6_set_41 : decode cX6_set 41 = .ok (.aload_n 0, 1) := by decide +kernel
theorem dX6_set_42 : decode cX6_set 42 = .ok (.getfield 7, 3) := by decide +kernel
theorem dX6_set_45 : decode cX6_set 45 = .ok (.iconst 0, 1) := by decide +kernel
theorem dX6_set_46 : decode cX6_set 46 = .ok (.iload_n 1, 1) := by decide +kernel
theorem dX6_set_47 : decode cX6_set 47 = .ok (.iadd, 1) := by decide +kernel
theorem dX6_set_48 : decode cX6_set 48 = .ok (.iaload, 1) := by decide +kernel
theorem dX6_set_49 : decode cX6_set 49 = .ok (.istore_n 3, 1) := by decide +kernel
theorem dX6_set_50 : decode cX6_set 50 = .ok (.aload_n 0, 1) := by decide +kernel
theorem dX6_set_51 : decode cX6_set 51 = .ok (.getfield 7, 3) := by decide +kernel
theorem dX6_set_54 : decode cX6_set 54 = .ok (.iconst 0, 1) := by decide +kernel
theorem dX6_set_55 : decode cX6_set 55 = .ok (.iload_n 1, 1) := by decide +kernel
theorem dX6_set_56 : decode cX6_set 56 = .ok (.iadd, 1) := by decide +kernel
theorem dX6_set_57 : decode cX6_set 57 = .ok (.iload_n 2, 1) := by decide +kernel
theorem dX6_set_58 : decode cX6_set 58 = .ok (.iastore, 1) := by decide +kernel
theorem dX6_set_59 : decode cX6_set 59 = .ok (.iload_n 3, 1) := by decide +kernel
theorem dX6_set_60 : decode cX6_set 60 = .ok (.ireturn, 1) := by decide +kernel
theorem dX6_makeSteps_0 : decode cX6_makeSteps 0 = .ok (.iconst 0, 1) := by decide +kernel
theorem dX6_makeSteps_1 : decode cX6_makeSteps 1 = .ok (.istore 4, 2) := by decide +kernel
theorem dX6_makeSteps_3 : decode cX6_makeSteps 3 = .ok (.iload 4, 2) := by decide +kernel
theorem dX6_makeSteps_5 : decode cX6_makeSteps 5 = .ok (.iload_n 3, 1) := by decide +kernel
theorem dX6_makeSteps_6 : decode cX6_makeSteps 6 = .ok (.if_icmp .ge 18, 3) := by decide +kernel
theorem dX6_makeSteps_9 : decode cX6_makeSteps 9 = .ok (.aload_n 0, 1) := by decide +kernel
theorem dX6_makeSteps_10 : decode cX6_makeSteps 10 = .ok (.iload_n 1, 1) := by decide +kernel
theorem dX6_makeSteps_11 : decode cX6_makeSteps 11 = .ok (.iload_n 2, 1) := by decide +kernel
theorem dX6_makeSteps_12 : decode cX6_makeSteps 12 = .ok (.invokevirtual 85, 3) := by decide +kernel
theorem dX6_makeSteps_15 : decode cX6_makeSteps 15 = .ok (.ifCond .eq 9, 3) := by decide +kernel
theorem dX6_makeSteps_18 : decode cX6_makeSteps 18 = .ok (.iinc 4 1, 3) := by decide +kernel
theorem dX6_makeSteps_21 : decode cX6_makeSteps 21 = .ok (.goto (-18), 3) := by decide +kernel
theorem dX6_makeSteps_24 : decode cX6_makeSteps 24 = .ok (.iload 4, 2) := by decide +kernel
theorem dX6_makeSteps_26 : decode cX6_makeSteps 26 = .ok (.ireturn, 1) := by decide +kernel
theorem dX6_step_0 : decode cX6_step 0 = .ok (.aload_n 0, 1) := by decide +kernel
theorem dX6_step_1 : decode cX6_step 1 = .ok (.iload_n 1, 1) := by decide +kernel
theorem dX6_step_2 : decode cX6_step 2 = .ok (.invokestatic 74, 3) := by decide +kernel
theorem dX6_step_5 : decode cX6_step 5 = .ok (.ifCond .ne 7, 3) := by decide +kernel
theorem dX6_step_8 : decode cX6_step 8 = .ok (.iconst 1, 1) := by decide +kernel
theorem dX6_step_9 : decode cX6_step 9 = .ok (.goto 44, 3) := by decide +kernel
theorem dX6_step_12 : decode cX6_step 12 = .ok (.iload_n 2, 1) := by decide +kernel
theorem dX6_step_13 : decode cX6_step 13 = .ok (.ifCond .eq 14, 3) := by decide +kernel
theorem dX6_step_16 : decode cX6_step 16 = .ok (.iload_n 2, 1) := by decide +kernel
theorem dX6_step_17 : decode cX6_step 17 = .ok (.bipush (-24), 2) := by decide +kernel
theorem dX6_step_19 : decode cX6_step 19 = .ok (.bipush 24, 2) := by decide +kernel
theorem dX6_step_21 : decode cX6_step 21 = .ok (.invokestatic 35, 3) := by decide +kernel
theorem dX6_step_24 : decode cX6_step 24 = .ok (.ifCond .ne 7, 3) := by decide +kernel
theorem dX6_step_27 : decode cX6_step 27 = .ok (.iconst 2, 1) := by decide +kernel
theorem dX6_step_28 : decode cX6_step 28 = .ok (.goto 25, 3) := by decide +kernel
theorem dX6_step_31 : decode cX6_step 31 = .ok (.aload_n 0, 1) := by decide +kernel
theorem dX6_step_32 : decode cX6_step 32 = .ok (.iload_n 1, 1) := by decide +kernel
theorem dX6_step_33 : decode cX6_step 33 = .ok (.iload_n 2, 1) := by decide +kernel
theorem dX6_step_34 : decode cX6_step 34 = .ok (.ifCond .le 7, 3) := by decide +kernel
theorem dX6_step_37 : decode cX6_step 37 = .ok (.iconst 1, 1) := by decide +kernel
theorem dX6_step_38 : decode cX6_step 38 = .ok (.goto 4, 3) := by decide +kernel
theorem dX6_step_41 : decode cX6_step 41 = .ok (.iconst 0, 1) := by decide +kernel
theorem dX6_step_42 : decode cX6_step 42 = .ok (.invokevirtual 89, 3) := by decide +kernel
theorem dX6_step_45 : decode cX6_step 45 = .ok (.ifCond .eq 7, 3) := by decide +kernel
theorem dX6_step_48 : decode cX6_step 48 = .ok (.iconst 0, 1) := by decide +kernel
theorem dX6_step_49 : decode cX6_step 49 = .ok (.goto 4, 3) := by decide +kernel
theorem dX6_step_52 : decode cX6_step 52 = .ok (.iconst 3, 1) := by decide +kernel
theorem dX6_step_53 : decode cX6_step 53 = .ok (.putfield 29, 3) := by decide +kernel
theorem dX6_step_56 : decode cX6_step 56 = .ok (.aload_n 0, 1) := by decide +kernel
theorem dX6_step_57 : decode cX6_step 57 = .ok (.getfield 29, 3) := by decide +kernel
theorem dX6_step_60 : decode cX6_step 60 = .ok (.ifCond .le 5, 3) := by decide +kernel
theorem dX6_step_63 : decode cX6_step 63 = .ok (.iconst 0, 1) := by decide +kernel
theorem dX6_step_64 : decode cX6_step 64 = .ok (.ireturn, 1) := by decide +kernel
theorem dX6_step_65 : decode cX6_step 65 = .ok (.aload_n 0, 1) := by decide +kernel
theorem dX6_step_66 : decode cX6_step 66 = .ok (.invokevirtual 71, 3) := by decide +kernel
theorem dX6_step_69 : decode cX6_step 69 = .ok (.aload_n 0, 1) := by decide +kernel
theorem dX6_step_70 : decode cX6_step 70 = .ok (.iload_n 1, 1) := by decide +kernel
theorem dX6_step_71 : decode cX6_step 71 = .ok (.iload_n 2, 1) := by decide +kernel
theorem dX6_step_72 : decode cX6_step 72 = .ok (.ifCond .le 7, 3) := by decide +kernel
theorem dX6_step_75 : decode cX6_step 75 = .ok (.iconst 1, 1) := by decide +kernel
theorem dX6_step_76 : decode cX6_step 76 = .ok (.goto 4, 3) := by decide +kernel
theorem dX6_step_79 : decode cX6_step 79 = .ok (.iconst 0, 1) := by decide +kernel
theorem dX6_step_80 : decode cX6_step 80 = .ok (.iload_n 2, 1) := by decide +kernel
theorem dX6_step_81 : decode cX6_step 81 = .ok (.ifCond .ge 8, 3) := by decide +kernel
theorem dX6_step_84 : decode cX6_step 84 = .ok (.iload_n 2, 1) := by decide +kernel
theorem dX6_step_85 : decode cX6_step 85 = .ok (.ineg, 1) := by decide +kernel
theorem dX6_step_86 : decode cX6_step 86 = .ok (.goto 4, 3) := by decide +kernel
theorem dX6_step_89 : decode cX6_step 89 = .ok (.iload_n 2, 1) := by decide +kernel
theorem dX6_step_90 : decode cX6_step 90 = .ok (.invokevirtual 92, 3) := by decide +kernel
theorem dX6_step_93 : decode cX6_step 93 = .ok (.ireturn, 1) := by decide +kernel
theorem dX6_costNow_0 : decode cX6_costNow 0 = .ok (.aload_n 0, 1) := by decide +kernel
theorem dX6_costNow_1 : decode cX6_costNow 1 = .ok (.iload_n 1, 1) := by decide +kernel
theorem dX6_costNow_2 : decode cX6_costNow 2 = .ok (.iconst 1, 1) := by decide +kernel
theorem dX6_costNow_3 : decode cX6_costNow 3 = .ok (.invokevirtual 39, 3) := by decide +kernel
theorem dX6_costNow_6 : decode cX6_costNow 6 = .ok (.istore 4, 2) := by decide +kernel
theorem dX6_costNow_8 : decode cX6_costNow 8 = .ok (.aload_n 0, 1) := by decide +kernel
theorem dX6_costNow_9 : decode cX6_costNow 9 = .ok (.iload_n 1, 1) := by decide +kernel
theorem dX6_costNow_10 : decode cX6_costNow 10 = .ok (.iconst 5, 1) := by decide +kernel
theorem dX6_costNow_11 : decode cX6_costNow 11 = .ok (.invokevirtual 39, 3) := by decide +kernel
theorem dX6_costNow_14 : decode cX6_costNow 14 = .ok (.istore 5, 2) := by decide +kernel
theorem dX6_costNow_16 : decode cX6_costNow 16 = .ok (.iconst 0, 1) := by decide +kernel
theorem dX6_costNow_17 : decode cX6_costNow 17 = .ok (.istore 6, 2) := by decide +kernel
theorem dX6_costNow_19 : decode cX6_costNow 19 = .ok (.iload 4, 2) := by decide +kernel
theorem dX6_costNow_21 : decode cX6_costNow 21 = .ok (.iload_n 2, 1) := by decide +kernel
theorem dX6_costNow_22 : decode cX6_costNow 22 = .ok (.if_icmp .eq 60, 3) := by decide +kernel
theorem dX6_costNow_25 : decode cX6_costNow 25 = .ok (.iload 4, 2) := by decide +kernel
theorem dX6_costNow_27 : decode cX6_costNow 27 = .ok (.iload_n 3, 1) := by decide +kernel
theorem dX6_costNow_28 : decode cX6_costNow 28 = .ok (.invokestatic 43, 3) := by decide +kernel
theorem dX6_costNow_31 : decode cX6_costNow 31 = .ok (.istore 7, 2) := by decide +kernel
theorem dX6_costNow_33 : decode cX6_costNow 33 = .ok (.iload 6, 2) := by decide +kernel
theorem dX6_costNow_35 : decode cX6_costNow 35 = .ok (.aload_n 0, 1) := by decide +kernel
theorem dX6_costNow_36 : decode cX6_costNow 36 = .ok (.iload_n 1, 1) := by decide +kernel
theorem dX6_costNow_37 : decode cX6_costNow 37 = .ok (.iload 7, 2) := by decide +kernel
theorem dX6_costNow_39 : decode cX6_costNow 39 = .ok (.aload_n 0, 1) := by decide +kernel
theorem dX6_costNow_40 : decode cX6_costNow 40 = .ok (.getfield 19, 3) := by decide +kernel
theorem dX6_costNow_43 : decode cX6_costNow 43 = .ok (.if_icmp .ne 7, 3) := by decide +kernel
theorem dX6_costNow_46 : decode cX6_costNow 46 = .ok (.iconst 0, 1) := by decide +kernel
theorem dX6_costNow_47 : decode cX6_costNow 47 = .ok (.goto 13, 3) := by decide +kernel
theorem dX6_costNow_50 : decode cX6_costNow 50 = .ok (.aload_n 0, 1) := by decide +kernel
theorem dX6_costNow_51 : decode cX6_costNow 51 = .ok (.iload_n 1, 1) := by decide +kernel
theorem dX6_costNow_52 : decode cX6_costNow 52 = .ok (.bipush 11, 2) := by decide +kernel
theorem dX6_costNow_54 : decode cX6_costNow 54 = .ok (.iload 7, 2) := by decide +kernel
theorem dX6_costNow_56 : decode cX6_costNow 56 = .ok (.iadd, 1) := by decide +kernel
theorem dX6_costNow_57 : decode cX6_costNow 57 = .ok (.invokevirtual 39, 3) := by decide +kernel
theorem dX6_costNow_60 : decode cX6_costNow 60 = .ok (.iload 5, 2) := by decide +kernel
theorem dX6_costNow_62 : decode cX6_costNow 62 = .ok (.invokevirtual 50, 3) := by decide +kernel
theorem dX6_costNow_65 : decode cX6_costNow 65 = .ok (.iadd, 1) := by decide +kernel
theorem dX6_costNow_66 : decode cX6_costNow 66 = .ok (.istore 6, 2) := by decide +kernel
theorem dX6_costNow_68 : decode cX6_costNow 68 = .ok (.iinc 5 (-1), 3) := by decide +kernel
theorem dX6_costNow_71 : decode cX6_costNow 71 = .ok (.iload 4, 2) := by decide +kernel
theorem dX6_costNow_73 : decode cX6_costNow 73 = .ok (.iload_n 3, 1) := by decide +kernel
theorem dX6_costNow_74 : decode cX6_costNow 74 = .ok (.invokestatic 64, 3) := by decide +kernel
theorem dX6_costNow_77 : decode cX6_costNow 77 = .ok (.istore 4, 2) := by decide +kernel
theorem dX6_costNow_79 : decode cX6_costNow 79 = .ok (.goto (-60), 3) := by decide +kernel
theorem dX6_costNow_82 : decode cX6_costNow 82 = .ok (.iload 6, 2) := by decide +kernel
theorem dX6_costNow_84 : decode cX6_costNow 84 = .ok (.ireturn, 1) := by decide +kernel
theorem dX6_goesUp_0 : decode cX6_goesUp 0 = .ok (.aload_n 0, 1) := by decide +kernel
theorem dX6_goesUp_1 : decode cX6_goesUp 1 = .ok (.iload_n 1, 1) := by decide +kernel
theorem dX6_goesUp_2 : decode cX6_goesUp 2 = .ok (.iload_n 2, 1) := by decide +kernel
theorem dX6_goesUp_3 : decode cX6_goesUp 3 = .ok (.iconst 1, 1) := by decide +kernel
theorem dX6_goesUp_4 : decode cX6_goesUp 4 = .ok (.invokevirtual 96, 3) := by decide +kernel
theorem dX6_goesUp_7 : decode cX6_goesUp 7 = .ok (.aload_n 0, 1) := by decide +kernel
theorem dX6_goesUp_8 : decode cX6_goesUp 8 = .ok (.iload_n 1, 1) := by decide +kernel
theorem dX6_goesUp_9 : decode cX6_goesUp 9 = .ok (.iload_n 2, 1) := by decide +kernel
theorem dX6_goesUp_10 : decode cX6_goesUp 10 = .ok (.iconst 0, 1) := by decide +kernel
theorem dX6_goesUp_11 : decode cX6_goesUp 11 = .ok (.invokevirtual 96, 3) := by decide +kernel
theorem dX6_goesUp_14 : decode cX6_goesUp 14 = .ok (.if_icmp .gt 7, 3) := by decide +kernel
theorem dX6_goesUp_17 : decode cX6_goesUp 17 = .ok (.iconst 1, 1) := by decide +kernel
theorem dX6_goesUp_18 : decode cX6_goesUp 18 = .ok (.goto 4, 3) := by decide +kernel
theorem dX6_goesUp_21 : decode cX6_goesUp 21 = .ok (.iconst 0, 1) := by decide +kernel
theorem dX6_goesUp_22 : decode cX6_goesUp 22 = .ok (.ireturn, 1) := by decide +kernel
theorem dX6_canGo_0 : decode cX6_canGo 0 = .ok (.aload_n 0, 1) := by decide +kernel
theorem dX6_canGo_1 : decode cX6_canGo 1 = .ok (.iload_n 1, 1) := by decide +kernel
theorem dX6_canGo_2 : decode cX6_canGo 2 = .ok (.iconst 1, 1) := by decide +kernel
theorem dX6_canGo_3 : decode cX6_canGo 3 = .ok (.invokevirtual 39, 3) := by decide +kernel
theorem dX6_canGo_6 : decode cX6_canGo 6 = .ok (.iload_n 2, 1) := by decide +kernel
theorem dX6_canGo_7 : decode cX6_canGo 7 = .ok (.if_icmp .eq 17, 3) := by decide +kernel
theorem dX6_canGo_10 : decode cX6_canGo 10 = .ok (.aload_n 0, 1) := by decide +kernel
theorem dX6_canGo_11 : decode cX6_canGo 11 = .ok (.iload_n 1, 1) := by decide +kernel
theorem dX6_canGo_12 : decode cX6_canGo 12 = .ok (.aload_n 0, 1) := by decide +kernel
theorem dX6_canGo_13 : decode cX6_canGo 13 = .ok (.iload_n 1, 1) := by decide +kernel
theorem dX6_canGo_14 : decode cX6_canGo 14 = .ok (.iload_n 2, 1) := by decide +kernel
theorem dX6_canGo_15 : decode cX6_canGo 15 = .ok (.invokevirtual 100, 3) := by decide +kernel
theorem dX6_canGo_18 : decode cX6_canGo 18 = .ok (.invokevirtual 89, 3) := by decide +kernel
theorem dX6_canGo_21 : decode cX6_canGo 21 = .ok (.ifCond .eq 7, 3) := by decide +kernel
theorem dX6_canGo_24 : decode cX6_canGo 24 = .ok (.iconst 1, 1) := by decide +kernel
theorem dX6_canGo_25 : decode cX6_canGo 25 = .ok (.goto 4, 3) := by decide +kernel
theorem dX6_canGo_28 : decode cX6_canGo 28 = .ok (.iconst 0, 1) := by decide +kernel
theorem dX6_canGo_29 : decode cX6_canGo 29 = .ok (.ireturn, 1) := by decide +kernel
theorem dX6_goes_0 : decode cX6_goes 0 = .ok (.aload_n 0, 1) := by decide +kernel
theorem dX6_goes_1 : decode cX6_goes 1 = .ok (.iload_n 1, 1) := by decide +kernel
theorem dX6_goes_2 : decode cX6_goes 2 = .ok (.bipush 8, 2) := by decide +kernel
theorem dX6_goes_4 : decode cX6_goes 4 = .ok (.invokevirtual 39, 3) := by decide +kernel
theorem dX6_goes_7 : decode cX6_goes 7 = .ok (.istore_n 3, 1) := by decide +kernel
theorem dX6_goes_8 : decode cX6_goes 8 = .ok (.aload_n 0, 1) := by decide +kernel
theorem dX6_goes_9 : decode cX6_goes 9 = .ok (.iload_n 1, 1) := by decide +kernel
theorem dX6_goes_10 : decode cX6_goes 10 = .ok (.iload_n 2, 1) := by decide +kernel
theorem dX6_goes_11 : decode cX6_goes 11 = .ok (.invokevirtual 100, 3) := by decide +kernel
theorem dX6_goes_14 : decode cX6_goes 14 = .ok (.istore 4, 2) := by decide +kernel
theorem dX6_goes_16 : decode cX6_goes 16 = .ok (.iconst 1, 1) := by decide +kernel
theorem dX6_goes_17 : decode cX6_goes 17 = .ok (.istore 5, 2) := by decide +kernel
theorem dX6_goes_19 : decode cX6_goes 19 = .ok (.iload 5, 2) := by decide +kernel
theorem dX6_goes_21 : decode cX6_goes 21 = .ok (.ifCond .eq 25, 3) := by decide +kernel
theorem dX6_goes_24 : decode cX6_goes 24 = .ok (.aload_n 0, 1) := by decide +kernel
theorem dX6_goes_25 : decode cX6_goes 25 = .ok (.iload_n 1, 1) := by decide +kernel
theorem dX6_goes_26 : decode cX6_goes 26 = .ok (.iconst 1, 1) := by decide +kernel
theorem dX6_goes_27 : decode cX6_goes 27 = .ok (.invokevirtual 39, 3) := by decide +kernel
theorem dX6_goes_30 : decode cX6_goes 30 = .ok (.iload_n 2, 1) := by decide +kernel
theorem dX6_goes_31 : decode cX6_goes 31 = .ok (.if_icmp .eq 15, 3) := by decide +kernel
theorem dX6_goes_34 : decode cX6_goes 34 = .ok (.aload_n 0, 1) := by decide +kernel
theorem dX6_goes_35 : decode cX6_goes 35 = .ok (.iload_n 1, 1) := by decide +kernel
theorem dX6_goes_36 : decode cX6_goes 36 = .ok (.iload 4, 2) := by decide +kernel
theorem dX6_goes_38 : decode cX6_goes 38 = .ok (.invokevirtual 85, 3) := by decide +kernel
theorem dX6_goes_41 : decode cX6_goes 41 = .ok (.istore 5, 2) := by decide +kernel
theorem dX6_goes_43 : decode cX6_goes 43 = .ok (.goto (-24), 3) := by decide +kernel
theorem dX6_goes_46 : decode cX6_goes 46 = .ok (.aload_n 0, 1) := by decide +kernel
theorem dX6_goes_47 : decode cX6_goes 47 = .ok (.iload_n 1, 1) := by decide +kernel
theorem dX6_goes_48 : decode cX6_goes 48 = .ok (.bipush 8, 2) := by decide +kernel
theorem dX6_goes_50 : decode cX6_goes 50 = .ok (.invokevirtual 39, 3) := by decide +kernel
theorem dX6_goes_53 : decode cX6_goes 53 = .ok (.iload_n 3, 1) := by decide +kernel
theorem dX6_goes_54 : decode cX6_goes 54 = .ok (.isub, 1) := by decide +kernel
theorem dX6_goes_55 : decode cX6_goes 55 = .ok (.ireturn, 1) := by decide +kernel
theorem dX6_go_0 : decode cX6_go 0 = .ok (.aload_n 0, 1) := by decide +kernel
theorem dX6_go_1 : decode cX6_go 1 = .ok (.iload_n 1, 1) := by decide +kernel
theorem dX6_go_2 : decode cX6_go 2 = .ok (.invokestatic 74, 3) := by decide +kernel
theorem dX6_go_5 : decode cX6_go 5 = .ok (.ifCond .ne 7, 3) := by decide +kernel
theorem dX6_go_8 : decode cX6_go 8 = .ok (.iconst 1, 1) := by decide +kernel
theorem dX6_go_9 : decode cX6_go 9 = .ok (.goto 28, 3) := by decide +kernel
theorem dX6_go_12 : decode cX6_go 12 = .ok (.iload_n 2, 1) := by decide +kernel
theorem dX6_go_13 : decode cX6_go 13 = .ok (.invokestatic 103, 3) := by decide +kernel
theorem dX6_go_16 : decode cX6_go 16 = .ok (.ifCond .ne 7, 3) := by decide +kernel
theorem dX6_go_19 : decode cX6_go 19 = .ok (.iconst 2, 1) := by decide +kernel
theorem dX6_go_20 : decode cX6_go 20 = .ok (.goto 17, 3) := by decide +kernel
theorem dX6_go_23 : decode cX6_go 23 = .ok (.aload_n 0, 1) := by decide +kernel
theorem dX6_go_24 : decode cX6_go 24 = .ok (.iload_n 1, 1) := by decide +kernel
theorem dX6_go_25 : decode cX6_go 25 = .ok (.iload_n 2, 1) := by decide +kernel
theorem dX6_go_26 : decode cX6_go 26 = .ok (.invokevirtual 106, 3) := by decide +kernel
theorem dX6_go_29 : decode cX6_go 29 = .ok (.ifCond .eq 7, 3) := by decide +kernel
theorem dX6_go_32 : decode cX6_go 32 = .ok (.iconst 0, 1) := by decide +kernel
theorem dX6_go_33 : decode cX6_go 33 = .ok (.goto 4, 3) := by decide +kernel
theorem dX6_go_36 : decode cX6_go 36 = .ok (.iconst 3, 1) := by decide +kernel
theorem dX6_go_37 : decode cX6_go 37 = .ok (.putfield 29, 3) := by decide +kernel
theorem dX6_go_40 : decode cX6_go 40 = .ok (.aload_n 0, 1) := by decide +kernel
theorem dX6_go_41 : decode cX6_go 41 = .ok (.getfield 29, 3) := by decide +kernel
theorem dX6_go_44 : decode cX6_go 44 = .ok (.ifCond .le 5, 3) := by decide +kernel
theorem dX6_go_47 : decode cX6_go 47 = .ok (.iconst 0, 1) := by decide +kernel
theorem dX6_go_48 : decode cX6_go 48 = .ok (.ireturn, 1) := by decide +kernel
theorem dX6_go_49 : decode cX6_go 49 = .ok (.aload_n 0, 1) := by decide +kernel
theorem dX6_go_50 : decode cX6_go 50 = .ok (.invokevirtual 71, 3) := by decide +kernel
theorem dX6_go_53 : decode cX6_go 53 = .ok (.aload_n 0, 1) := by decide +kernel
theorem dX6_go_54 : decode cX6_go 54 = .ok (.iload_n 1, 1) := by decide +kernel
theorem dX6_go_55 : decode cX6_go 55 = .ok (.iload_n 2, 1) := by decide +kernel
theorem dX6_go_56 : decode cX6_go 56 = .ok (.invokevirtual 109, 3) := by decide +kernel
theorem dX6_go_59 : decode cX6_go 59 = .ok (.ireturn, 1) := by decide +kernel
theorem dX6_homes_0 : decode cX6_homes 0 = .ok (.iconst 0, 1) := by decide +kernel
theorem dX6_homes_1 : decode cX6_homes 1 = .ok (.istore_n 2, 1) := by decide +kernel
theorem dX6_homes_2 : decode cX6_homes 2 = .ok (.aload_n 0, 1) := by decide +kernel
theorem dX6_homes_3 : decode cX6_homes 3 = .ok (.iload_n 1, 1) := by decide +kernel
theorem dX6_homes_4 : decode cX6_homes 4 = .ok (.iconst 0, 1) := by decide +kernel
theorem dX6_homes_5 : decode cX6_homes 5 = .ok (.invokevirtual 39, 3) := by decide +kernel
theorem dX6_homes_8 : decode cX6_homes 8 = .ok (.ifCond .eq 24, 3) := by decide +kernel
theorem dX6_homes_11 : decode cX6_homes 11 = .ok (.iload_n 2, 1) := by decide +kernel
theorem dX6_homes_12 : decode cX6_homes 12 = .ok (.bipush 40, 2) := by decide +kernel
theorem dX6_homes_14 : decode cX6_homes 14 = .ok (.if_icmp .ge 18, 3) := by decide +kernel
theorem dX6_homes_17 : decode cX6_homes 17 = .ok (.aload_n 0, 1) := by decide +kernel
theorem dX6_homes_18 : decode cX6_homes 18 = .ok (.iload_n 1, 1) := by decide +kernel
theorem dX6_homes_19 : decode cX6_homes 19 = .ok (.iconst 0, 1) := by decide +kernel
theorem dX6_homes_20 : decode cX6_homes 20 = .ok (.invokevirtual 85, 3) := by decide +kernel
theorem dX6_homes_23 : decode cX6_homes 23 = .ok (.ifCond .eq 9, 3) := by decide +kernel
theorem dX6_homes_26 : decode cX6_homes 26 = .ok (.iinc 2 1, 3) := by decide +kernel
theorem dX6_homes_29 : decode cX6_homes 29 = .ok (.goto (-27), 3) := by decide +kernel
theorem dX6_homes_32 : decode cX6_homes 32 = .ok (.aload_n 0, 1) := by decide +kernel
theorem dX6_homes_33 : decode cX6_homes 33 = .ok (.iload_n 1, 1) := by decide +kernel
theorem dX6_homes_34 : decode cX6_homes 34 = .ok (.iconst 0, 1) := by decide +kernel
theorem dX6_homes_35 : decode cX6_homes 35 = .ok (.invokevirtual 39, 3) := by decide +kernel
theorem dX6_homes_38 : decode cX6_homes 38 = .ok (.ifCond .ne 34, 3) := by decide +kernel
theorem dX6_homes_41 : decode cX6_homes 41 = .ok (.aload_n 0, 1) := by decide +kernel
theorem dX6_homes_42 : decode cX6_homes 42 = .ok (.iload_n 1, 1) := by decide +kernel
theorem dX6_homes_43 : decode cX6_homes 43 = .ok (.iconst 1, 1) := by decide +kernel
theorem dX6_homes_44 : decode cX6_homes 44 = .ok (.iconst 0, 1) := by decide +kernel
theorem dX6_homes_45 : decode cX6_homes 45 = .ok (.invokevirtual 67, 3) := by decide +kernel
theorem dX6_homes_48 : decode cX6_homes 48 = .ok (.aload_n 0, 1) := by decide +kernel
theorem dX6_homes_49 : decode cX6_homes 49 = .ok (.iload_n 1, 1) := by decide +kernel
theorem dX6_homes_50 : decode cX6_homes 50 = .ok (.iconst 4, 1) := by decide +kernel
theorem dX6_homes_51 : decode cX6_homes 51 = .ok (.iconst 0, 1) := by decide +kernel
theorem dX6_homes_52 : decode cX6_homes 52 = .ok (.invokevirtual 67, 3) := by decide +kernel
theorem dX6_homes_55 : decode cX6_homes 55 = .ok (.aload_n 0, 1) := by decide +kernel
theorem dX6_homes_56 : decode cX6_homes 56 = .ok (.iload_n 1, 1) := by decide +kernel
theorem dX6_homes_57 : decode cX6_homes 57 = .ok (.iconst 3, 1) := by decide +kernel
theorem dX6_homes_58 : decode cX6_homes 58 = .ok (.iconst 0, 1) := by decide +kernel
theorem dX6_homes_59 : decode cX6_homes 59 = .ok (.invokevirtual 67, 3) := by decide +kernel
theorem dX6_homes_62 : decode cX6_homes 62 = .ok (.aload_n 0, 1) := by decide +kernel
theorem dX6_homes_63 : decode cX6_homes 63 = .ok (.iload_n 1, 1) := by decide +kernel
theorem dX6_homes_64 : decode cX6_homes 64 = .ok (.bipush 10, 2) := by decide +kernel
theorem dX6_homes_66 : decode cX6_homes 66 = .ok (.iconst 1, 1) := by decide +kernel
theorem dX6_homes_67 : decode cX6_homes 67 = .ok (.invokevirtual 60, 3) := by decide +kernel
theorem dX6_homes_70 : decode cX6_homes 70 = .ok (.iload_n 2, 1) := by decide +kernel
theorem dX6_homes_71 : decode cX6_homes 71 = .ok (.ireturn, 1) := by decide +kernel
theorem dX6_homes_72 : decode cX6_homes 72 = .ok (.iconst (-1), 1) := by decide +kernel
theorem dX6_homes_73 : decode cX6_homes 73 = .ok (.ireturn, 1) := by decide +kernel
theorem dX6_home_0 : decode cX6_home 0 = .ok (.aload_n 0, 1) := by decide +kernel
theorem dX6_home_1 : decode cX6_home 1 = .ok (.iload_n 1, 1) := by decide +kernel
theorem dX6_home_2 : decode cX6_home 2 = .ok (.invokestatic 74, 3) := by decide +kernel
theorem dX6_home_5 : decode cX6_home 5 = .ok (.ifCond .eq 7, 3) := by decide +kernel
theorem dX6_home_8 : decode cX6_home 8 = .ok (.iconst 0, 1) := by decide +kernel
theorem dX6_home_9 : decode cX6_home 9 = .ok (.goto 4, 3) := by decide +kernel
theorem dX6_home_12 : decode cX6_home 12 = .ok (.iconst 1, 1) := by decide +kernel
theorem dX6_home_13 : decode cX6_home 13 = .ok (.putfield 29, 3) := by decide +kernel
theorem dX6_home_16 : decode cX6_home 16 = .ok (.aload_n 0, 1) := by decide +kernel
theorem dX6_home_17 : decode cX6_home 17 = .ok (.getfield 29, 3) := by decide +kernel
theorem dX6_home_20 : decode cX6_home 20 = .ok (.ifCond .le 5, 3) := by decide +kernel
theorem dX6_home_23 : decode cX6_home 23 = .ok (.iconst 0, 1) := by decide +kernel
theorem dX6_home_24 : decode cX6_home 24 = .ok (.ireturn, 1) := by decide +kernel
theorem dX6_home_25 : decode cX6_home 25 = .ok (.aload_n 0, 1) := by decide +kernel
theorem dX6_home_26 : decode cX6_home 26 = .ok (.invokevirtual 71, 3) := by decide +kernel
theorem dX6_home_29 : decode cX6_home 29 = .ok (.aload_n 0, 1) := by decide +kernel
theorem dX6_home_30 : decode cX6_home 30 = .ok (.iload_n 1, 1) := by decide +kernel
theorem dX6_home_31 : decode cX6_home 31 = .ok (.invokevirtual 112, 3) := by decide +kernel
theorem dX6_home_34 : decode cX6_home 34 = .ok (.ireturn, 1) := by decide +kernel
theorem dX6_pay_0 : decode cX6_pay 0 = .ok (.aload_n 0, 1) := by decide +kernel
theorem dX6_pay_1 : decode cX6_pay 1 = .ok (.getfield 7, 3) := by decide +kernel
theorem dX6_pay_4 : decode cX6_pay 4 = .ok (.bipush 6, 2) := by decide +kernel
theorem dX6_pay_6 : decode cX6_pay 6 = .ok (.dup2, 1) := by decide +kernel
theorem dX6_pay_7 : decode cX6_pay 7 = .ok (.iaload, 1) := by decide +kernel
theorem dX6_pay_8 : decode cX6_pay 8 = .ok (.iload_n 1, 1) := by decide +kernel
theorem dX6_pay_9 : decode cX6_pay 9 = .ok (.isub, 1) := by decide +kernel
theorem dX6_pay_10 : decode cX6_pay 10 = .ok (.iastore, 1) := by decide +kernel
theorem dX6_pay_11 : decode cX6_pay 11 = .ok (.aload_n 0, 1) := by decide +kernel
theorem dX6_pay_12 : decode cX6_pay 12 = .ok (.getfield 7, 3) := by decide +kernel
theorem dX6_pay_15 : decode cX6_pay 15 = .ok (.bipush 7, 2) := by decide +kernel
theorem dX6_pay_17 : decode cX6_pay 17 = .ok (.dup2, 1) := by decide +kernel
theorem dX6_pay_18 : decode cX6_pay 18 = .ok (.iaload, 1) := by decide +kernel
theorem dX6_pay_19 : decode cX6_pay 19 = .ok (.iload_n 1, 1) := by decide +kernel
theorem dX6_pay_20 : decode cX6_pay 20 = .ok (.iadd, 1) := by decide +kernel
theorem dX6_pay_21 : decode cX6_pay 21 = .ok (.iastore, 1) := by decide +kernel
theorem dX6_pay_22 : decode cX6_pay 22 = .ok (.return_, 1) := by decide +kernel
theorem dX6_canGrease_0 : decode cX6_canGrease 0 = .ok (.aload_n 0, 1) := by decide +kernel
theorem dX6_canGrease_1 : decode cX6_canGrease 1 = .ok (.getfield 7, 3) := by decide +kernel
theorem dX6_canGrease_4 : decode cX6_canGrease 4 = .ok (.bipush 6, 2) := by decide +kernel
theorem dX6_canGrease_6 : decode cX6_canGrease 6 = .ok (.iaload, 1) := by decide +kernel
theorem dX6_canGrease_7 : decode cX6_canGrease 7 = .ok (.aload_n 0, 1) := by decide +kernel
theorem dX6_canGrease_8 : decode cX6_canGrease 8 = .ok (.getfield 7, 3) := by decide +kernel
theorem dX6_canGrease_11 : decode cX6_canGrease 11 = .ok (.iconst 5, 1) := by decide +kernel
theorem dX6_canGrease_12 : decode cX6_canGrease 12 = .ok (.iaload, 1) := by decide +kernel
theorem dX6_canGrease_13 : decode cX6_canGrease 13 = .ok (.if_icmp .lt 7, 3) := by decide +kernel
theorem dX6_canGrease_16 : decode cX6_canGrease 16 = .ok (.iconst 1, 1) := by decide +kernel
theorem dX6_canGrease_17 : decode cX6_canGrease 17 = .ok (.goto 4, 3) := by decide +kernel
theorem dX6_canGrease_20 : decode cX6_canGrease 20 = .ok (.iconst 0, 1) := by decide +kernel
theorem dX6_canGrease_21 : decode cX6_canGrease 21 = .ok (.ireturn, 1) := by decide +kernel
theorem dX6_greases_0 : decode cX6_greases 0 = .ok (.aload_n 0, 1) := by decide +kernel
theorem dX6_greases_1 : decode cX6_greases 1 = .ok (.aload_n 0, 1) := by decide +kernel
theorem dX6_greases_2 : decode cX6_greases 2 = .ok (.getfield 7, 3) := by decide +kernel
theorem dX6_greases_5 : decode cX6_greases 5 = .ok (.iconst 5, 1) := by decide +kernel
theorem dX6_greases_6 : decode cX6_greases 6 = .ok (.iaload, 1) := by decide +kernel
theorem dX6_greases_7 : decode cX6_greases 7 = .ok (.invokevirtual 116, 3) := by decide +kernel
theorem dX6_greases_10 : decode cX6_greases 10 = .ok (.aload_n 0, 1) := by decide +kernel
theorem dX6_greases_11 : decode cX6_greases 11 = .ok (.iload_n 1, 1) := by decide +kernel
theorem dX6_greases_12 : decode cX6_greases 12 = .ok (.iconst 5, 1) := by decide +kernel
theorem dX6_greases_13 : decode cX6_greases 13 = .ok (.aload_n 0, 1) := by decide +kernel
theorem dX6_greases_14 : decode cX6_greases 14 = .ok (.getfield 7, 3) := by decide +kernel
theorem dX6_greases_17 : decode cX6_greases 17 = .ok (.iconst 4, 1) := by decide +kernel
theorem dX6_greases_18 : decode cX6_greases 18 = .ok (.iaload, 1) := by decide +kernel
theorem dX6_greases_19 : decode cX6_greases 19 = .ok (.invokevirtual 67, 3) := by decide +kernel
theorem dX6_greases_22 : decode cX6_greases 22 = .ok (.return_, 1) := by decide +kernel
theorem dX6_grease_0 : decode cX6_grease 0 = .ok (.aload_n 0, 1) := by decide +kernel
theorem dX6_grease_1 : decode cX6_grease 1 = .ok (.iload_n 1, 1) := by decide +kernel
theorem dX6_grease_2 : decode cX6_grease 2 = .ok (.invokestatic 74, 3) := by decide +kernel
theorem dX6_grease_5 : decode cX6_grease 5 = .ok (.ifCond .ne 7, 3) := by decide +kernel
theorem dX6_grease_8 : decode cX6_grease 8 = .ok (.iconst 1, 1) := by decide +kernel
theorem dX6_grease_9 : decode cX6_grease 9 = .ok (.goto 15, 3) := by decide +kernel
theorem dX6_grease_12 : decode cX6_grease 12 = .ok (.aload_n 0, 1) := by decide +kernel
theorem dX6_grease_13 : decode cX6_grease 13 = .ok (.invokevirtual 120, 3) := by decide +kernel
theorem dX6_grease_16 : decode cX6_grease 16 = .ok (.ifCond .eq 7, 3) := by decide +kernel
theorem dX6_grease_19 : decode cX6_grease 19 = .ok (.iconst 0, 1) := by decide +kernel
theorem dX6_grease_20 : decode cX6_grease 20 = .ok (.goto 4, 3) := by decide +kernel
theorem dX6_grease_23 : decode cX6_grease 23 = .ok (.iconst 2, 1) := by decide +kernel
theorem dX6_grease_24 : decode cX6_grease 24 = .ok (.putfield 29, 3) := by decide +kernel
theorem dX6_grease_27 : decode cX6_grease 27 = .ok (.aload_n 0, 1) := by decide +kernel
theorem dX6_grease_28 : decode cX6_grease 28 = .ok (.getfield 29, 3) := by decide +kernel
theorem dX6_grease_31 : decode cX6_grease 31 = .ok (.ifCond .le 5, 3) := by decide +kernel
theorem dX6_grease_34 : decode cX6_grease 34 = .ok (.iconst 0, 1) := by decide +kernel
theorem dX6_grease_35 : decode cX6_grease 35 = .ok (.ireturn, 1) := by decide +kernel
theorem dX6_grease_36 : decode cX6_grease 36 = .ok (.aload_n 0, 1) := by decide +kernel
theorem dX6_grease_37 : decode cX6_grease 37 = .ok (.invokevirtual 71, 3) := by decide +kernel
theorem dX6_grease_40 : decode cX6_grease 40 = .ok (.aload_n 0, 1) := by decide +kernel
theorem dX6_grease_41 : decode cX6_grease 41 = .ok (.iload_n 1, 1) := by decide +kernel
theorem dX6_grease_42 : decode cX6_grease 42 = .ok (.invokevirtual 124, 3) := by decide +kernel
theorem dX6_grease_45 : decode cX6_grease 45 = .ok (.aload_n 0, 1) := by decide +kernel
theorem dX6_grease_46 : decode cX6_grease 46 = .ok (.getfield 7, 3) := by decide +kernel
theorem dX6_grease_49 : decode cX6_grease 49 = .ok (.bipush 6, 2) := by decide +kernel
theorem dX6_grease_51 : decode cX6_grease 51 = .ok (.iaload, 1) := by decide +kernel
theorem dX6_grease_52 : decode cX6_grease 52 = .ok (.ireturn, 1) := by decide +kernel
theorem dX6_mend_0 : decode cX6_mend 0 = .ok (.aload_n 0, 1) := by decide +kernel
theorem dX6_mend_1 : decode cX6_mend 1 = .ok (.iload_n 1, 1) := by decide +kernel
theorem dX6_mend_2 : decode cX6_mend 2 = .ok (.invokestatic 74, 3) := by decide +kernel
theorem dX6_mend_5 : decode cX6_mend 5 = .ok (.ifCond .eq 14, 3) := by decide +kernel
theorem dX6_mend_8 : decode cX6_mend 8 = .ok (.iload_n 2, 1) := by decide +kernel
theorem dX6_mend_9 : decode cX6_mend 9 = .ok (.invokestatic 103, 3) := by decide +kernel
theorem dX6_mend_12 : decode cX6_mend 12 = .ok (.ifCond .eq 7, 3) := by decide +kernel
theorem dX6_mend_15 : decode cX6_mend 15 = .ok (.iconst 0, 1) := by decide +kernel
theorem dX6_mend_16 : decode cX6_mend 16 = .ok (.goto 4, 3) := by decide +kernel
theorem dX6_mend_19 : decode cX6_mend 19 = .ok (.iconst 1, 1) := by decide +kernel
theorem dX6_mend_20 : decode cX6_mend 20 = .ok (.putfield 29, 3) := by decide +kernel
theorem dX6_mend_23 : decode cX6_mend 23 = .ok (.aload_n 0, 1) := by decide +kernel
theorem dX6_mend_24 : decode cX6_mend 24 = .ok (.getfield 29, 3) := by decide +kernel
theorem dX6_mend_27 : decode cX6_mend 27 = .ok (.ifCond .ne 38, 3) := by decide +kernel
theorem dX6_mend_30 : decode cX6_mend 30 = .ok (.aload_n 0, 1) := by decide +kernel
theorem dX6_mend_31 : decode cX6_mend 31 = .ok (.aload_n 0, 1) := by decide +kernel
theorem dX6_mend_32 : decode cX6_mend 32 = .ok (.getfield 7, 3) := by decide +kernel
theorem dX6_mend_35 : decode cX6_mend 35 = .ok (.bipush 6, 2) := by decide +kernel
theorem dX6_mend_37 : decode cX6_mend 37 = .ok (.iaload, 1) := by decide +kernel
theorem dX6_mend_38 : decode cX6_mend 38 = .ok (.aload_n 0, 1) := by decide +kernel
theorem dX6_mend_39 : decode cX6_mend 39 = .ok (.iload_n 1, 1) := by decide +kernel
theorem dX6_mend_40 : decode cX6_mend 40 = .ok (.bipush 11, 2) := by decide +kernel
theorem dX6_mend_42 : decode cX6_mend 42 = .ok (.iload_n 2, 1) := by decide +kernel
theorem dX6_mend_43 : decode cX6_mend 43 = .ok (.iadd, 1) := by decide +kernel
theorem dX6_mend_44 : decode cX6_mend 44 = .ok (.invokevirtual 39, 3) := by decide +kernel
theorem dX6_mend_47 : decode cX6_mend 47 = .ok (.aload_n 0, 1) := by decide +kernel
theorem dX6_mend_48 : decode cX6_mend 48 = .ok (.getfield 7, 3) := by decide +kernel
theorem dX6_mend_51 : decode cX6_mend 51 = .ok (.iconst 3, 1) := by decide +kernel
theorem dX6_mend_52 : decode cX6_mend 52 = .ok (.iaload, 1) := by decide +kernel
theorem dX6_mend_53 : decode cX6_mend 53 = .ok (.imul, 1) := by decide +kernel
theorem dX6_mend_54 : decode cX6_mend 54 = .ok (.if_icmp .ge 7, 3) := by decide +kernel
theorem dX6_mend_57 : decode cX6_mend 57 = .ok (.iconst 2, 1) := by decide +kernel
theorem dX6_mend_58 : decode cX6_mend 58 = .ok (.goto 4, 3) := by decide +kernel
theorem dX6_mend_61 : decode cX6_mend 61 = .ok (.iconst 0, 1) := by decide +kernel
theorem dX6_mend_62 : decode cX6_mend 62 = .ok (.putfield 29, 3) := by decide +kernel
theorem dX6_mend_65 : decode cX6_mend 65 = .ok (.aload_n 0, 1) := by decide +kernel
theorem dX6_mend_66 : decode cX6_mend 66 = .ok (.getfield 29, 3) := by decide +kernel
theorem dX6_mend_69 : decode cX6_mend 69 = .ok (.ifCond .le 5, 3) := by decide +kernel
theorem dX6_mend_72 : decode cX6_mend 72 = .ok (.iconst 0, 1) := by decide +kernel
theorem dX6_mend_73 : decode cX6_mend 73 = .ok (.ireturn, 1) := by decide +kernel
theorem dX6_mend_74 : decode cX6_mend 74 = .ok (.aload_n 0, 1) := by decide +kernel
theorem dX6_mend_75 : decode cX6_mend 75 = .ok (.invokevirtual 71, 3) := by decide +kernel
theorem dX6_mend_78 : decode cX6_mend 78 = .ok (.aload_n 0, 1) := by decide +kernel
theorem dX6_mend_79 : decode cX6_mend 79 = .ok (.iload_n 1, 1) := by decide +kernel
theorem dX6_mend_80 : decode cX6_mend 80 = .ok (.bipush 11, 2) := by decide +kernel
theorem dX6_mend_82 : decode cX6_mend 82 = .ok (.iload_n 2, 1) := by decide +kernel
theorem dX6_mend_83 : decode cX6_mend 83 = .ok (.iadd, 1) := by decide +kernel
theorem dX6_mend_84 : decode cX6_mend 84 = .ok (.invokevirtual 39, 3) := by decide +kernel
theorem dX6_mend_87 : decode cX6_mend 87 = .ok (.aload_n 0, 1) := by decide +kernel
theorem dX6_mend_88 : decode cX6_mend 88 = .ok (.getfield 7, 3) := by decide +kernel
theorem dX6_mend_91 : decode cX6_mend 91 = .ok (.iconst 3, 1) := by decide +kernel
theorem dX6_mend_92 : decode cX6_mend 92 = .ok (.iaload, 1) := by decide +kernel
theorem dX6_mend_93 : decode cX6_mend 93 = .ok (.imul, 1) := by decide +kernel
theorem dX6_mend_94 : decode cX6_mend 94 = .ok (.istore_n 3, 1) := by decide +kernel
theorem dX6_mend_95 : decode cX6_mend 95 = .ok (.aload_n 0, 1) := by decide +kernel
theorem dX6_mend_96 : decode cX6_mend 96 = .ok (.iload_n 3, 1) := by decide +kernel
theorem dX6_mend_97 : decode cX6_mend 97 = .ok (.invokevirtual 116, 3) := by decide +kernel
theorem dX6_mend_100 : decode cX6_mend 100 = .ok (.aload_n 0, 1) := by decide +kernel
theorem dX6_mend_101 : decode cX6_mend 101 = .ok (.iload_n 1, 1) := by decide +kernel
theorem dX6_mend_102 : decode cX6_mend 102 = .ok (.bipush 11, 2) := by decide +kernel
theorem dX6_mend_104 : decode cX6_mend 104 = .ok (.iload_n 2, 1) := by decide +kernel
theorem dX6_mend_105 : decode cX6_mend 105 = .ok (.iadd, 1) := by decide +kernel
theorem dX6_mend_106 : decode cX6_mend 106 = .ok (.iconst 0, 1) := by decide +kernel
theorem dX6_mend_107 : decode cX6_mend 107 = .ok (.invokevirtual 67, 3) := by decide +kernel
theorem dX6_mend_110 : decode cX6_mend 110 = .ok (.iload_n 3, 1) := by decide +kernel
theorem dX6_mend_111 : decode cX6_mend 111 = .ok (.ireturn, 1) := by decide +kernel
theorem dX6_append_0 : decode cX6_append 0 = .ok (.aload_n 0, 1) := by decide +kernel
theorem dX6_append_1 : decode cX6_append 1 = .ok (.iload_n 1, 1) := by decide +kernel
theorem dX6_append_2 : decode cX6_append 2 = .ok (.bipush 33, 2) := by decide +kernel
theorem dX6_append_4 : decode cX6_append 4 = .ok (.bipush 126, 2) := by decide +kernel
theorem dX6_append_6 : decode cX6_append 6 = .ok (.invokestatic 35, 3) := by decide +kernel
theorem dX6_append_9 : decode cX6_append 9 = .ok (.ifCond .ne 7, 3) := by decide +kernel
theorem dX6_append_12 : decode cX6_append 12 = .ok (.iconst 1, 1) := by decide +kernel
theorem dX6_append_13 : decode cX6_append 13 = .ok (.goto 17, 3) := by decide +kernel
theorem dX6_append_16 : decode cX6_append 16 = .ok (.aload_n 0, 1) := by decide +kernel
theorem dX6_append_17 : decode cX6_append 17 = .ok (.getfield 127, 3) := by decide +kernel
theorem dX6_append_20 : decode cX6_append 20 = .ok (.bipush 60, 2) := by decide +kernel
theorem dX6_append_22 : decode cX6_append 22 = .ok (.if_icmp .ne 7, 3) := by decide +kernel
theorem dX6_append_25 : decode cX6_append 25 = .ok (.iconst 2, 1) := by decide +kernel
theorem dX6_append_26 : decode cX6_append 26 = .ok (.goto 4, 3) := by decide +kernel
theorem dX6_append_29 : decode cX6_append 29 = .ok (.iconst 0, 1) := by decide +kernel
theorem dX6_append_30 : decode cX6_append 30 = .ok (.putfield 29, 3) := by decide +kernel
theorem dX6_append_33 : decode cX6_append 33 = .ok (.aload_n 0, 1) := by decide +kernel
theorem dX6_append_34 : decode cX6_append 34 = .ok (.getfield 29, 3) := by decide +kernel
theorem dX6_append_37 : decode cX6_append 37 = .ok (.ifCond .le 5, 3) := by decide +kernel
theorem dX6_append_40 : decode cX6_append 40 = .ok (.iconst 0, 1) := by decide +kernel
theorem dX6_append_41 : decode cX6_append 41 = .ok (.ireturn, 1) := by decide +kernel
theorem dX6_append_42 : decode cX6_append 42 = .ok (.aload_n 0, 1) := by decide +kernel
theorem dX6_append_43 : decode cX6_append 43 = .ok (.getfield 16, 3) := by decide +kernel
theorem dX6_append_46 : decode cX6_append 46 = .ok (.aload_n 0, 1) := by decide +kernel
theorem dX6_append_47 : decode cX6_append 47 = .ok (.getfield 127, 3) := by decide +kernel
theorem dX6_append_50 : decode cX6_append 50 = .ok (.iload_n 1, 1) := by decide +kernel
theorem dX6_append_51 : decode cX6_append 51 = .ok (.iastore, 1) := by decide +kernel
theorem dX6_append_52 : decode cX6_append 52 = .ok (.aload_n 0, 1) := by decide +kernel
theorem dX6_append_53 : decode cX6_append 53 = .ok (.dup, 1) := by decide +kernel
theorem dX6_append_54 : decode cX6_append 54 = .ok (.getfield 127, 3) := by decide +kernel
theorem dX6_append_57 : decode cX6_append 57 = .ok (.iconst 1, 1) := by decide +kernel
theorem dX6_append_58 : decode cX6_append 58 = .ok (.iadd, 1) := by decide +kernel
theorem dX6_append_59 : decode cX6_append 59 = .ok (.putfield 127, 3) := by decide +kernel
theorem dX6_append_62 : decode cX6_append 62 = .ok (.aload_n 0, 1) := by decide +kernel
theorem dX6_append_63 : decode cX6_append 63 = .ok (.getfield 127, 3) := by decide +kernel
theorem dX6_append_66 : decode cX6_append 66 = .ok (.ireturn, 1) := by decide +kernel
theorem dX6_clearBuffer_0 : decode cX6_clearBuffer 0 = .ok (.aload_n 0, 1) := by decide +kernel
theorem dX6_clearBuffer_1 : decode cX6_clearBuffer 1 = .ok (.iconst 0, 1) := by decide +kernel
theorem dX6_clearBuffer_2 : decode cX6_clearBuffer 2 = .ok (.putfield 29, 3) := by decide +kernel
theorem dX6_clearBuffer_5 : decode cX6_clearBuffer 5 = .ok (.aload_n 0, 1) := by decide +kernel
theorem dX6_clearBuffer_6 : decode cX6_clearBuffer 6 = .ok (.getfield 127, 3) := by decide +kernel
theorem dX6_clearBuffer_9 : decode cX6_clearBuffer 9 = .ok (.istore_n 1, 1) := by decide +kernel
theorem dX6_clearBuffer_10 : decode cX6_clearBuffer 10 = .ok (.aload_n 0, 1) := by decide +kernel
theorem dX6_clearBuffer_11 : decode cX6_clearBuffer 11 = .ok (.iconst 0, 1) := by decide +kernel
theorem dX6_clearBuffer_12 : decode cX6_clearBuffer 12 = .ok (.putfield 127, 3) := by decide +kernel
theorem dX6_clearBuffer_15 : decode cX6_clearBuffer 15 = .ok (.iload_n 1, 1) := by decide +kernel
theorem dX6_clearBuffer_16 : decode cX6_clearBuffer 16 = .ok (.ireturn, 1) := by decide +kernel
theorem dX6_takesSign_0 : decode cX6_takesSign 0 = .ok (.aload_n 0, 1) := by decide +kernel
theorem dX6_takesSign_1 : decode cX6_takesSign 1 = .ok (.getfield 23, 3) := by decide +kernel
theorem dX6_takesSign_4 : decode cX6_takesSign 4 = .ok (.iconst 3, 1) := by decide +kernel
theorem dX6_takesSign_5 : decode cX6_takesSign 5 = .ok (.aload_n 0, 1) := by decide +kernel
theorem dX6_takesSign_6 : decode cX6_takesSign 6 = .ok (.getfield 130, 3) := by decide +kernel
theorem dX6_takesSign_9 : decode cX6_takesSign 9 = .ok (.imul, 1) := by decide +kernel
theorem dX6_takesSign_10 : decode cX6_takesSign 10 = .ok (.iconst 1, 1) := by decide +kernel
theorem dX6_takesSign_11 : decode cX6_takesSign 11 = .ok (.iadd, 1) := by decide +kernel
theorem dX6_takesSign_12 : decode cX6_takesSign 12 = .ok (.iload_n 1, 1) := by decide +kernel
theorem dX6_takesSign_13 : decode cX6_takesSign 13 = .ok (.iastore, 1) := by decide +kernel
theorem dX6_takesSign_14 : decode cX6_takesSign 14 = .ok (.aload_n 0, 1) := by decide +kernel
theorem dX6_takesSign_15 : decode cX6_takesSign 15 = .ok (.iload_n 1, 1) := by decide +kernel
theorem dX6_takesSign_16 : decode cX6_takesSign 16 = .ok (.bipush 104, 2) := by decide +kernel
theorem dX6_takesSign_18 : decode cX6_takesSign 18 = .ok (.if_icmp .eq 9, 3) := by decide +kernel
theorem dX6_takesSign_21 : decode cX6_takesSign 21 = .ok (.iload_n 1, 1) := by decide +kernel
theorem dX6_takesSign_22 : decode cX6_takesSign 22 = .ok (.bipush 103, 2) := by decide +kernel
theorem dX6_takesSign_24 : decode cX6_takesSign 24 = .ok (.if_icmp .ne 7, 3) := by decide +kernel
theorem dX6_takesSign_27 : decode cX6_takesSign 27 = .ok (.iconst 3, 1) := by decide +kernel
theorem dX6_takesSign_28 : decode cX6_takesSign 28 = .ok (.goto 4, 3) := by decide +kernel
theorem dX6_takesSign_31 : decode cX6_takesSign 31 = .ok (.iconst 2, 1) := by decide +kernel
theorem dX6_takesSign_32 : decode cX6_takesSign 32 = .ok (.putfield 133, 3) := by decide +kernel
theorem dX6_takesSign_35 : decode cX6_takesSign 35 = .ok (.iload_n 1, 1) := by decide +kernel
theorem dX6_takesSign_36 : decode cX6_takesSign 36 = .ok (.bipush 43, 2) := by decide +kernel
theorem dX6_takesSign_38 : decode cX6_takesSign 38 = .ok (.if_icmp .eq 27, 3) := by decide +kernel
theorem dX6_takesSign_41 : decode cX6_takesSign 41 = .ok (.iload_n 1, 1) := by decide +kernel
theorem dX6_takesSign_42 : decode cX6_takesSign 42 = .ok (.bipush 45, 2) := by decide +kernel
theorem dX6_takesSign_44 : decode cX6_takesSign 44 = .ok (.if_icmp .eq 21, 3) := by decide +kernel
theorem dX6_takesSign_47 : decode cX6_takesSign 47 = .ok (.iload_n 1, 1) := by decide +kernel
theorem dX6_takesSign_48 : decode cX6_takesSign 48 = .ok (.bipush 61, 2) := by decide +kernel
theorem dX6_takesSign_50 : decode cX6_takesSign 50 = .ok (.if_icmp .eq 15, 3) := by decide +kernel
theorem dX6_takesSign_53 : decode cX6_takesSign 53 = .ok (.iload_n 1, 1) := by decide +kernel
theorem dX6_takesSign_54 : decode cX6_takesSign 54 = .ok (.bipush 104, 2) := by decide +kernel
theorem dX6_takesSign_56 : decode cX6_takesSign 56 = .ok (.if_icmp .eq 9, 3) := by decide +kernel
theorem dX6_takesSign_59 : decode cX6_takesSign 59 = .ok (.iload_n 1, 1) := by decide +kernel
theorem dX6_takesSign_60 : decode cX6_takesSign 60 = .ok (.bipush 103, 2) := by decide +kernel
theorem dX6_takesSign_62 : decode cX6_takesSign 62 = .ok (.if_icmp .ne 7, 3) := by decide +kernel
theorem dX6_takesSign_65 : decode cX6_takesSign 65 = .ok (.iconst 1, 1) := by decide +kernel
theorem dX6_takesSign_66 : decode cX6_takesSign 66 = .ok (.goto 4, 3) := by decide +kernel
theorem dX6_takesSign_69 : decode cX6_takesSign 69 = .ok (.iconst 0, 1) := by decide +kernel
theorem dX6_takesSign_70 : decode cX6_takesSign 70 = .ok (.ireturn, 1) := by decide +kernel
theorem dX6_takesDigit_0 : decode cX6_takesDigit 0 = .ok (.aload_n 0, 1) := by decide +kernel
theorem dX6_takesDigit_1 : decode cX6_takesDigit 1 = .ok (.getfield 23, 3) := by decide +kernel
theorem dX6_takesDigit_4 : decode cX6_takesDigit 4 = .ok (.iconst 3, 1) := by decide +kernel
theorem dX6_takesDigit_5 : decode cX6_takesDigit 5 = .ok (.aload_n 0, 1) := by decide +kernel
theorem dX6_takesDigit_6 : decode cX6_takesDigit 6 = .ok (.getfield 130, 3) := by decide +kernel
theorem dX6_takesDigit_9 : decode cX6_takesDigit 9 = .ok (.imul, 1) := by decide +kernel
theorem dX6_takesDigit_10 : decode cX6_takesDigit 10 = .ok (.iconst 1, 1) := by decide +kernel
theorem dX6_takesDigit_11 : decode cX6_takesDigit 11 = .ok (.iadd, 1) := by decide +kernel
theorem dX6_takesDigit_12 : decode cX6_takesDigit 12 = .ok (.iaload, 1) := by decide +kernel
theorem dX6_takesDigit_13 : decode cX6_takesDigit 13 = .ok (.bipush 61, 2) := by decide +kernel
theorem dX6_takesDigit_15 : decode cX6_takesDigit 15 = .ok (.if_icmp .ne 7, 3) := by decide +kernel
theorem dX6_takesDigit_18 : decode cX6_takesDigit 18 = .ok (.iconst 1, 1) := by decide +kernel
theorem dX6_takesDigit_19 : decode cX6_takesDigit 19 = .ok (.goto 4, 3) := by decide +kernel
theorem dX6_takesDigit_22 : decode cX6_takesDigit 22 = .ok (.iconst 0, 1) := by decide +kernel
theorem dX6_takesDigit_23 : decode cX6_takesDigit 23 = .ok (.istore_n 2, 1) := by decide +kernel
theorem dX6_takesDigit_24 : decode cX6_takesDigit 24 = .ok (.aload_n 0, 1) := by decide +kernel
theorem dX6_takesDigit_25 : decode cX6_takesDigit 25 = .ok (.getfield 136, 3) := by decide +kernel
theorem dX6_takesDigit_28 : decode cX6_takesDigit 28 = .ok (.iconst (-1), 1) := by decide +kernel
theorem dX6_takesDigit_29 : decode cX6_takesDigit 29 = .ok (.if_icmp .ne 7, 3) := by decide +kernel
theorem dX6_takesDigit_32 : decode cX6_takesDigit 32 = .ok (.iload_n 1, 1) := by decide +kernel
theorem dX6_takesDigit_33 : decode cX6_takesDigit 33 = .ok (.goto 12, 3) := by decide +kernel
theorem dX6_takesDigit_36 : decode cX6_takesDigit 36 = .ok (.bipush 10, 2) := by decide +kernel
theorem dX6_takesDigit_38 : decode cX6_takesDigit 38 = .ok (.aload_n 0, 1) := by decide +kernel
theorem dX6_takesDigit_39 : decode cX6_takesDigit 39 = .ok (.getfield 136, 3) := by decide +kernel
theorem dX6_takesDigit_42 : decode cX6_takesDigit 42 = .ok (.imul, 1) := by decide +kernel
theorem dX6_takesDigit_43 : decode cX6_takesDigit 43 = .ok (.iload_n 1, 1) := by decide +kernel
theorem dX6_takesDigit_44 : decode cX6_takesDigit 44 = .ok (.iadd, 1) := by decide +kernel
theorem dX6_takesDigit_45 : decode cX6_takesDigit 45 = .ok (.istore_n 3, 1) := by decide +kernel
theorem dX6_takesDigit_46 : decode cX6_takesDigit 46 = .ok (.iload_n 1, 1) := by decide +kernel
theorem dX6_takesDigit_47 : decode cX6_takesDigit 47 = .ok (.iconst 0, 1) := by decide +kernel
theorem dX6_takesDigit_48 : decode cX6_takesDigit 48 = .ok (.bipush 9, 2) := by decide +kernel
theorem dX6_takesDigit_50 : decode cX6_takesDigit 50 = .ok (.invokestatic 35, 3) := by decide +kernel
theorem dX6_takesDigit_53 : decode cX6_takesDigit 53 = .ok (.ifCond .eq 41, 3) := by decide +kernel
theorem dX6_takesDigit_56 : decode cX6_takesDigit 56 = .ok (.aload_n 0, 1) := by decide +kernel
theorem dX6_takesDigit_57 : decode cX6_takesDigit 57 = .ok (.getfield 136, 3) := by decide +kernel
theorem dX6_takesDigit_60 : decode cX6_takesDigit 60 = .ok (.ifCond .eq 34, 3) := by decide +kernel
theorem dX6_takesDigit_63 : decode cX6_takesDigit 63 = .ok (.iload_n 3, 1) := by decide +kernel
theorem dX6_takesDigit_64 : decode cX6_takesDigit 64 = .ok (.iload_n 2, 1) := by decide +kernel
theorem dX6_takesDigit_65 : decode cX6_takesDigit 65 = .ok (.ifCond .eq 7, 3) := by decide +kernel
theorem dX6_takesDigit_68 : decode cX6_takesDigit 68 = .ok (.iconst 0, 1) := by decide +kernel
theorem dX6_takesDigit_69 : decode cX6_takesDigit 69 = .ok (.goto 4, 3) := by decide +kernel
theorem dX6_takesDigit_72 : decode cX6_takesDigit 72 = .ok (.iconst 1, 1) := by decide +kernel
theorem dX6_takesDigit_73 : decode cX6_takesDigit 73 = .ok (.iload_n 2, 1) := by decide +kernel
theorem dX6_takesDigit_74 : decode cX6_takesDigit 74 = .ok (.ifCond .eq 8, 3) := by decide +kernel
theorem dX6_takesDigit_77 : decode cX6_takesDigit 77 = .ok (.bipush 23, 2) := by decide +kernel
theorem dX6_takesDigit_79 : decode cX6_takesDigit 79 = .ok (.goto 5, 3) := by decide +kernel
theorem dX6_takesDigit_82 : decode cX6_takesDigit 82 = .ok (.bipush 24, 2) := by decide +kernel
theorem dX6_takesDigit_84 : decode cX6_takesDigit 84 = .ok (.invokestatic 35, 3) := by decide +kernel
theorem dX6_takesDigit_87 : decode cX6_takesDigit 87 = .ok (.ifCond .eq 7, 3) := by decide +kernel
theorem dX6_takesDigit_90 : decode cX6_takesDigit 90 = .ok (.iconst 1, 1) := by decide +kernel
theorem dX6_takesDigit_91 : decode cX6_takesDigit 91 = .ok (.goto 4, 3) := by decide +kernel
theorem dX6_takesDigit_94 : decode cX6_takesDigit 94 = .ok (.iconst 0, 1) := by decide +kernel
theorem dX6_takesDigit_95 : decode cX6_takesDigit 95 = .ok (.istore 4, 2) := by decide +kernel
theorem dX6_takesDigit_97 : decode cX6_takesDigit 97 = .ok (.aload_n 0, 1) := by decide +kernel
theorem dX6_takesDigit_98 : decode cX6_takesDigit 98 = .ok (.iload 4, 2) := by decide +kernel
theorem dX6_takesDigit_100 : decode cX6_takesDigit 100 = .ok (.ifCond .eq 7, 3) := by decide +kernel
theorem dX6_takesDigit_103 : decode cX6_takesDigit 103 = .ok (.iload_n 3, 1) := by decide +kernel
theorem dX6_takesDigit_104 : decode cX6_takesDigit 104 = .ok (.goto 7, 3) := by decide +kernel
theorem dX6_takesDigit_107 : decode cX6_takesDigit 107 = .ok (.aload_n 0, 1) := by decide +kernel
theorem dX6_takesDigit_108 : decode cX6_takesDigit 108 = .ok (.getfield 136, 3) := by decide +kernel
theorem dX6_takesDigit_111 : decode cX6_takesDigit 111 = .ok (.putfield 136, 3) := by decide +kernel
theorem dX6_takesDigit_114 : decode cX6_takesDigit 114 = .ok (.iload 4, 2) := by decide +kernel
theorem dX6_takesDigit_116 : decode cX6_takesDigit 116 = .ok (.ireturn, 1) := by decide +kernel
theorem dX6_isEnded_0 : decode cX6_isEnded 0 = .ok (.aload_n 0, 1) := by decide +kernel
theorem dX6_isEnded_1 : decode cX6_isEnded 1 = .ok (.getfield 133, 3) := by decide +kernel
theorem dX6_isEnded_4 : decode cX6_isEnded 4 = .ok (.iconst 3, 1) := by decide +kernel
theorem dX6_isEnded_5 : decode cX6_isEnded 5 = .ok (.if_icmp .eq 19, 3) := by decide +kernel
theorem dX6_isEnded_8 : decode cX6_isEnded 8 = .ok (.aload_n 0, 1) := by decide +kernel
theorem dX6_isEnded_9 : decode cX6_isEnded 9 = .ok (.getfield 133, 3) := by decide +kernel
theorem dX6_isEnded_12 : decode cX6_isEnded 12 = .ok (.iconst 2, 1) := by decide +kernel
theorem dX6_isEnded_13 : decode cX6_isEnded 13 = .ok (.if_icmp .ne 15, 3) := by decide +kernel
theorem dX6_isEnded_16 : decode cX6_isEnded 16 = .ok (.aload_n 0, 1) := by decide +kernel
theorem dX6_isEnded_17 : decode cX6_isEnded 17 = .ok (.getfield 136, 3) := by decide +kernel
theorem dX6_isEnded_20 : decode cX6_isEnded 20 = .ok (.iconst (-1), 1) := by decide +kernel
theorem dX6_isEnded_21 : decode cX6_isEnded 21 = .ok (.if_icmp .eq 7, 3) := by decide +kernel
theorem dX6_isEnded_24 : decode cX6_isEnded 24 = .ok (.iconst 1, 1) := by decide +kernel
theorem dX6_isEnded_25 : decode cX6_isEnded 25 = .ok (.goto 4, 3) := by decide +kernel
theorem dX6_isEnded_28 : decode cX6_isEnded 28 = .ok (.iconst 0, 1) := by decide +kernel
theorem dX6_isEnded_29 : decode cX6_isEnded 29 = .ok (.ireturn, 1) := by decide +kernel
theorem dX6_endCommand_0 : decode cX6_endCommand 0 = .ok (.aload_n 0, 1) := by decide +kernel
theorem dX6_endCommand_1 : decode cX6_endCommand 1 = .ok (.getfield 23, 3) := by decide +kernel
theorem dX6_endCommand_4 : decode cX6_endCommand 4 = .ok (.iconst 3, 1) := by decide +kernel
theorem dX6_endCommand_5 : decode cX6_endCommand 5 = .ok (.aload_n 0, 1) := by decide +kernel
theorem dX6_endCommand_6 : decode cX6_endCommand 6 = .ok (.getfield 130, 3) := by decide +kernel
theorem dX6_endCommand_9 : decode cX6_endCommand 9 = .ok (.imul, 1) := by decide +kernel
theorem dX6_endCommand_10 : decode cX6_endCommand 10 = .ok (.iconst 2, 1) := by decide +kernel
theorem dX6_endCommand_11 : decode cX6_endCommand 11 = .ok (.iadd, 1) := by decide +kernel
theorem dX6_endCommand_12 : decode cX6_endCommand 12 = .ok (.aload_n 0, 1) := by decide +kernel
theorem dX6_endCommand_13 : decode cX6_endCommand 13 = .ok (.getfield 136, 3) := by decide +kernel
theorem dX6_endCommand_16 : decode cX6_endCommand 16 = .ok (.iastore, 1) := by decide +kernel
theorem dX6_endCommand_17 : decode cX6_endCommand 17 = .ok (.aload_n 0, 1) := by decide +kernel
theorem dX6_endCommand_18 : decode cX6_endCommand 18 = .ok (.dup, 1) := by decide +kernel
theorem dX6_endCommand_19 : decode cX6_endCommand 19 = .ok (.getfield 130, 3) := by decide +kernel
theorem dX6_endCommand_22 : decode cX6_endCommand 22 = .ok (.iconst 1, 1) := by decide +kernel
theorem dX6_endCommand_23 : decode cX6_endCommand 23 = .ok (.iadd, 1) := by decide +kernel
theorem dX6_endCommand_24 : decode cX6_endCommand 24 = .ok (.putfield 130, 3) := by decide +kernel
theorem dX6_endCommand_27 : decode cX6_endCommand 27 = .ok (.aload_n 0, 1) := by decide +kernel
theorem dX6_endCommand_28 : decode cX6_endCommand 28 = .ok (.iconst (-1), 1) := by decide +kernel
theorem dX6_endCommand_29 : decode cX6_endCommand 29 = .ok (.putfield 136, 3) := by decide +kernel
theorem dX6_endCommand_32 : decode cX6_endCommand 32 = .ok (.aload_n 0, 1) := by decide +kernel
theorem dX6_endCommand_33 : decode cX6_endCommand 33 = .ok (.iconst 0, 1) := by decide +kernel
theorem dX6_endCommand_34 : decode cX6_endCommand 34 = .ok (.putfield 133, 3) := by decide +kernel
theorem dX6_endCommand_37 : decode cX6_endCommand 37 = .ok (.return_, 1) := by decide +kernel
theorem dX6_takes_0 : decode cX6_takes 0 = .ok (.aload_n 0, 1) := by decide +kernel
theorem dX6_takes_1 : decode cX6_takes 1 = .ok (.getfield 133, 3) := by decide +kernel
theorem dX6_takes_4 : decode cX6_takes 4 = .ok (.ifCond .ne 32, 3) := by decide +kernel
theorem dX6_takes_7 : decode cX6_takes 7 = .ok (.aload_n 0, 1) := by decide +kernel
theorem dX6_takes_8 : decode cX6_takes 8 = .ok (.getfield 23, 3) := by decide +kernel
theorem dX6_takes_11 : decode cX6_takes 11 = .ok (.iconst 3, 1) := by decide +kernel
theorem dX6_takes_12 : decode cX6_takes 12 = .ok (.aload_n 0, 1) := by decide +kernel
theorem dX6_takes_13 : decode cX6_takes 13 = .ok (.getfield 130, 3) := by decide +kernel
theorem dX6_takes_16 : decode cX6_takes 16 = .ok (.imul, 1) := by decide +kernel
theorem dX6_takes_17 : decode cX6_takes 17 = .ok (.iload_n 1, 1) := by decide +kernel
theorem dX6_takes_18 : decode cX6_takes 18 = .ok (.bipush 97, 2) := by decide +kernel
theorem dX6_takes_20 : decode cX6_takes 20 = .ok (.isub, 1) := by decide +kernel
theorem dX6_takes_21 : decode cX6_takes 21 = .ok (.iastore, 1) := by decide +kernel
theorem dX6_takes_22 : decode cX6_takes 22 = .ok (.aload_n 0, 1) := by decide +kernel
theorem dX6_takes_23 : decode cX6_takes 23 = .ok (.iconst 1, 1) := by decide +kernel
theorem dX6_takes_24 : decode cX6_takes 24 = .ok (.putfield 133, 3) := by decide +kernel
theorem dX6_takes_27 : decode cX6_takes 27 = .ok (.iload_n 1, 1) := by decide +kernel
theorem dX6_takes_28 : decode cX6_takes 28 = .ok (.bipush 97, 2) := by decide +kernel
theorem dX6_takes_30 : decode cX6_takes 30 = .ok (.bipush 100, 2) := by decide +kernel
theorem dX6_takes_32 : decode cX6_takes 32 = .ok (.invokestatic 35, 3) := by decide +kernel
theorem dX6_takes_35 : decode cX6_takes 35 = .ok (.ireturn, 1) := by decide +kernel
theorem dX6_takes_36 : decode cX6_takes 36 = .ok (.aload_n 0, 1) := by decide +kernel
theorem dX6_takes_37 : decode cX6_takes 37 = .ok (.getfield 133, 3) := by decide +kernel
theorem dX6_takes_40 : decode cX6_takes 40 = .ok (.iconst 1, 1) := by decide +kernel
theorem dX6_takes_41 : decode cX6_takes 41 = .ok (.if_icmp .ne 9, 3) := by decide +kernel
theorem dX6_takes_44 : decode cX6_takes 44 = .ok (.aload_n 0, 1) := by decide +kernel
theorem dX6_takes_45 : decode cX6_takes 45 = .ok (.iload_n 1, 1) := by decide +kernel
theorem dX6_takes_46 : decode cX6_takes 46 = .ok (.invokevirtual 139, 3) := by decide +kernel
theorem dX6_takes_49 : decode cX6_takes 49 = .ok (.ireturn, 1) := by decide +kernel
theorem dX6_takes_50 : decode cX6_takes 50 = .ok (.iload_n 1, 1) := by decide +kernel
theorem dX6_takes_51 : decode cX6_takes 51 = .ok (.bipush 59, 2) := by decide +kernel
theorem dX6_takes_53 : decode cX6_takes 53 = .ok (.if_icmp .ne 16, 3) := by decide +kernel
theorem dX6_takes_56 : decode cX6_takes 56 = .ok (.aload_n 0, 1) := by decide +kernel
theorem dX6_takes_57 : decode cX6_takes 57 = .ok (.invokevirtual 142, 3) := by decide +kernel
theorem dX6_takes_60 : decode cX6_takes 60 = .ok (.ifCond .eq 9, 3) := by decide +kernel
theorem dX6_takes_63 : decode cX6_takes 63 = .ok (.aload_n 0, 1) := by decide +kernel
theorem dX6_takes_64 : decode cX6_takes 64 = .ok (.invokevirtual 145, 3) := by decide +kernel
theorem dX6_takes_67 : decode cX6_takes 67 = .ok (.iconst 1, 1) := by decide +kernel
theorem dX6_takes_68 : decode cX6_takes 68 = .ok (.ireturn, 1) := by decide +kernel
theorem dX6_takes_69 : decode cX6_takes 69 = .ok (.aload_n 0, 1) := by decide +kernel
theorem dX6_takes_70 : decode cX6_takes 70 = .ok (.getfield 133, 3) := by decide +kernel
theorem dX6_takes_73 : decode cX6_takes 73 = .ok (.iconst 2, 1) := by decide +kernel
theorem dX6_takes_74 : decode cX6_takes 74 = .ok (.if_icmp .ne 18, 3) := by decide +kernel
theorem dX6_takes_77 : decode cX6_takes 77 = .ok (.aload_n 0, 1) := by decide +kernel
theorem dX6_takes_78 : decode cX6_takes 78 = .ok (.iload_n 1, 1) := by decide +kernel
theorem dX6_takes_79 : decode cX6_takes 79 = .ok (.bipush 48, 2) := by decide +kernel
theorem dX6_takes_81 : decode cX6_takes 81 = .ok (.isub, 1) := by decide +kernel
theorem dX6_takes_82 : decode cX6_takes 82 = .ok (.invokevirtual 148, 3) := by decide +kernel
theorem dX6_takes_85 : decode cX6_takes 85 = .ok (.ifCond .eq 7, 3) := by decide +kernel
theorem dX6_takes_88 : decode cX6_takes 88 = .ok (.iconst 1, 1) := by decide +kernel
theorem dX6_takes_89 : decode cX6_takes 89 = .ok (.goto 4, 3) := by decide +kernel
theorem dX6_takes_92 : decode cX6_takes 92 = .ok (.iconst 0, 1) := by decide +kernel
theorem dX6_takes_93 : decode cX6_takes 93 = .ok (.ireturn, 1) := by decide +kernel
theorem dX6_rightUpTo_0 : decode cX6_rightUpTo 0 = .ok (.aload_n 0, 1) := by decide +kernel
theorem dX6_rightUpTo_1 : decode cX6_rightUpTo 1 = .ok (.iconst 0, 1) := by decide +kernel
theorem dX6_rightUpTo_2 : decode cX6_rightUpTo 2 = .ok (.putfield 130, 3) := by decide +kernel
theorem dX6_rightUpTo_5 : decode cX6_rightUpTo 5 = .ok (.aload_n 0, 1) := by decide +kernel
theorem dX6_rightUpTo_6 : decode cX6_rightUpTo 6 = .ok (.iconst (-1), 1) := by decide +kernel
theorem dX6_rightUpTo_7 : decode cX6_rightUpTo 7 = .ok (.putfield 136, 3) := by decide +kernel
theorem dX6_rightUpTo_10 : decode cX6_rightUpTo 10 = .ok (.aload_n 0, 1) := by decide +kernel
theorem dX6_rightUpTo_11 : decode cX6_rightUpTo 11 = .ok (.iconst 0, 1) := by decide +kernel
theorem dX6_rightUpTo_12 : decode cX6_rightUpTo 12 = .ok (.putfield 133, 3) := by decide +kernel
theorem dX6_rightUpTo_15 : decode cX6_rightUpTo 15 = .ok (.iconst 0, 1) := by decide +kernel
theorem dX6_rightUpTo_16 : decode cX6_rightUpTo 16 = .ok (.istore_n 1, 1) := by decide +kernel
theorem dX6_rightUpTo_17 : decode cX6_rightUpTo 17 = .ok (.iload_n 1, 1) := by decide +kernel
theorem dX6_rightUpTo_18 : decode cX6_rightUpTo 18 = .ok (.aload_n 0, 1) := by decide +kernel
theorem dX6_rightUpTo_19 : decode cX6_rightUpTo 19 = .ok (.getfield 127, 3) := by decide +kernel
theorem dX6_rightUpTo_22 : decode cX6_rightUpTo 22 = .ok (.if_icmp .ge 22, 3) := by decide +kernel
theorem dX6_rightUpTo_25 : decode cX6_rightUpTo 25 = .ok (.aload_n 0, 1) := by decide +kernel
theorem dX6_rightUpTo_26 : decode cX6_rightUpTo 26 = .ok (.aload_n 0, 1) := by decide +kernel
theorem dX6_rightUpTo_27 : decode cX6_rightUpTo 27 = .ok (.getfield 16, 3) := by decide +kernel
theorem dX6_rightUpTo_30 : decode cX6_rightUpTo 30 = .ok (.iload_n 1, 1) := by decide +kernel
theorem dX6_rightUpTo_31 : decode cX6_rightUpTo 31 = .ok (.iaload, 1) := by decide +kernel
theorem dX6_rightUpTo_32 : decode cX6_rightUpTo 32 = .ok (.invokevirtual 151, 3) := by decide +kernel
theorem dX6_rightUpTo_35 : decode cX6_rightUpTo 35 = .ok (.ifCond .eq 9, 3) := by decide +kernel
theorem dX6_rightUpTo_38 : decode cX6_rightUpTo 38 = .ok (.iinc 1 1, 3) := by decide +kernel
theorem dX6_rightUpTo_41 : decode cX6_rightUpTo 41 = .ok (.goto (-24), 3) := by decide +kernel
theorem dX6_rightUpTo_44 : decode cX6_rightUpTo 44 = .ok (.iload_n 1, 1) := by decide +kernel
theorem dX6_rightUpTo_45 : decode cX6_rightUpTo 45 = .ok (.ireturn, 1) := by decide +kernel
theorem dX6_firstError_0 : decode cX6_firstError 0 = .ok (.aload_n 0, 1) := by decide +kernel
theorem dX6_firstError_1 : decode cX6_firstError 1 = .ok (.iconst 0, 1) := by decide +kernel
theorem dX6_firstError_2 : decode cX6_firstError 2 = .ok (.putfield 29, 3) := by decide +kernel
theorem dX6_firstError_5 : decode cX6_firstError 5 = .ok (.aload_n 0, 1) := by decide +kernel
theorem dX6_firstError_6 : decode cX6_firstError 6 = .ok (.invokevirtual 154, 3) := by decide +kernel
theorem dX6_firstError_9 : decode cX6_firstError 9 = .ok (.ireturn, 1) := by decide +kernel
theorem dX6_carries_0 : decode cX6_carries 0 = .ok (.aload_n 0, 1) := by decide +kernel
theorem dX6_carries_1 : decode cX6_carries 1 = .ok (.getfield 23, 3) := by decide +kernel
theorem dX6_carries_4 : decode cX6_carries 4 = .ok (.iconst 3, 1) := by decide +kernel
theorem dX6_carries_5 : decode cX6_carries 5 = .ok (.iload_n 1, 1) := by decide +kernel
theorem dX6_carries_6 : decode cX6_carries 6 = .ok (.imul, 1) := by decide +kernel
theorem dX6_carries_7 : decode cX6_carries 7 = .ok (.iaload, 1) := by decide +kernel
theorem dX6_carries_8 : decode cX6_carries 8 = .ok (.istore_n 2, 1) := by decide +kernel
theorem dX6_carries_9 : decode cX6_carries 9 = .ok (.aload_n 0, 1) := by decide +kernel
theorem dX6_carries_10 : decode cX6_carries 10 = .ok (.getfield 23, 3) := by decide +kernel
theorem dX6_carries_13 : decode cX6_carries 13 = .ok (.iconst 3, 1) := by decide +kernel
theorem dX6_carries_14 : decode cX6_carries 14 = .ok (.iload_n 1, 1) := by decide +kernel
theorem dX6_carries_15 : decode cX6_carries 15 = .ok (.imul, 1) := by decide +kernel
theorem dX6_carries_16 : decode cX6_carries 16 = .ok (.iconst 1, 1) := by decide +kernel
theorem dX6_carries_17 : decode cX6_carries 17 = .ok (.iadd, 1) := by decide +kernel
theorem dX6_carries_18 : decode cX6_carries 18 = .ok (.iaload, 1) := by decide +kernel
theorem dX6_carries_19 : decode cX6_carries 19 = .ok (.istore_n 3, 1) := by decide +kernel
theorem dX6_carries_20 : decode cX6_carries 20 = .ok (.aload_n 0, 1) := by decide +kernel
theorem dX6_carries_21 : decode cX6_carries 21 = .ok (.getfield 23, 3) := by decide +kernel
theorem dX6_carries_24 : decode cX6_carries 24 = .ok (.iconst 3, 1) := by decide +kernel
theorem dX6_carries_25 : decode cX6_carries 25 = .ok (.iload_n 1, 1) := by decide +kernel
theorem dX6_carries_26 : decode cX6_carries 26 = .ok (.imul, 1) := by decide +kernel
theorem dX6_carries_27 : decode cX6_carries 27 = .ok (.iconst 2, 1) := by decide +kernel
theorem dX6_carries_28 : decode cX6_carries 28 = .ok (.iadd, 1) := by decide +kernel
theorem dX6_carries_29 : decode cX6_carries 29 = .ok (.iaload, 1) := by decide +kernel
theorem dX6_carries_30 : decode cX6_carries 30 = .ok (.istore 4, 2) := by decide +kernel
theorem dX6_carries_32 : decode cX6_carries 32 = .ok (.iload_n 3, 1) := by decide +kernel
theorem dX6_carries_33 : decode cX6_carries 33 = .ok (.bipush 104, 2) := by decide +kernel
theorem dX6_carries_35 : decode cX6_carries 35 = .ok (.if_icmp .eq 57, 3) := by decide +kernel
theorem dX6_carries_38 : decode cX6_carries 38 = .ok (.iload_n 3, 1) := by decide +kernel
theorem dX6_carries_39 : decode cX6_carries 39 = .ok (.bipush 103, 2) := by decide +kernel
theorem dX6_carries_41 : decode cX6_carries 41 = .ok (.if_icmp .ne 13, 3) := by decide +kernel
theorem dX6_carries_44 : decode cX6_carries 44 = .ok (.aload_n 0, 1) := by decide +kernel
theorem dX6_carries_45 : decode cX6_carries 45 = .ok (.invokevirtual 120, 3) := by decide +kernel
theorem dX6_carries_48 : decode cX6_carries 48 = .ok (.ifCond .eq 48, 3) := by decide +kernel
theorem dX6_carries_51 : decode cX6_carries 51 = .ok (.goto 41, 3) := by decide +kernel
theorem dX6_carries_54 : decode cX6_carries 54 = .ok (.iload_n 3, 1) := by decide +kernel
theorem dX6_carries_55 : decode cX6_carries 55 = .ok (.bipush 61, 2) := by decide +kernel
theorem dX6_carries_57 : decode cX6_carries 57 = .ok (.if_icmp .ne 16, 3) := by decide +kernel
theorem dX6_carries_60 : decode cX6_carries 60 = .ok (.aload_n 0, 1) := by decide +kernel
theorem dX6_carries_61 : decode cX6_carries 61 = .ok (.iload_n 2, 1) := by decide +kernel
theorem dX6_carries_62 : decode cX6_carries 62 = .ok (.iload 4, 2) := by decide +kernel
theorem dX6_carries_64 : decode cX6_carries 64 = .ok (.invokevirtual 106, 3) := by decide +kernel
theorem dX6_carries_67 : decode cX6_carries 67 = .ok (.ifCond .eq 29, 3) := by decide +kernel
theorem dX6_carries_70 : decode cX6_carries 70 = .ok (.goto 22, 3) := by decide +kernel
theorem dX6_carries_73 : decode cX6_carries 73 = .ok (.aload_n 0, 1) := by decide +kernel
theorem dX6_carries_74 : decode cX6_carries 74 = .ok (.iload_n 2, 1) := by decide +kernel
theorem dX6_carries_75 : decode cX6_carries 75 = .ok (.iload_n 3, 1) := by decide +kernel
theorem dX6_carries_76 : decode cX6_carries 76 = .ok (.bipush 43, 2) := by decide +kernel
theorem dX6_carries_78 : decode cX6_carries 78 = .ok (.if_icmp .ne 7, 3) := by decide +kernel
theorem dX6_carries_81 : decode cX6_carries 81 = .ok (.iconst 1, 1) := by decide +kernel
theorem dX6_carries_82 : decode cX6_carries 82 = .ok (.goto 4, 3) := by decide +kernel
theorem dX6_carries_85 : decode cX6_carries 85 = .ok (.iconst 0, 1) := by decide +kernel
theorem dX6_carries_86 : decode cX6_carries 86 = .ok (.invokevirtual 89, 3) := by decide +kernel
theorem dX6_carries_89 : decode cX6_carries 89 = .ok (.ifCond .eq 7, 3) := by decide +kernel
theorem dX6_carries_92 : decode cX6_carries 92 = .ok (.iconst 1, 1) := by decide +kernel
theorem dX6_carries_93 : decode cX6_carries 93 = .ok (.goto 4, 3) := by decide +kernel
theorem dX6_carries_96 : decode cX6_carries 96 = .ok (.iconst 0, 1) := by decide +kernel
theorem dX6_carries_97 : decode cX6_carries 97 = .ok (.istore 5, 2) := by decide +kernel
theorem dX6_carries_99 : decode cX6_carries 99 = .ok (.iconst 0, 1) := by decide +kernel
theorem dX6_carries_100 : decode cX6_carries 100 = .ok (.istore 6, 2) := by decide +kernel
theorem dX6_carries_102 : decode cX6_carries 102 = .ok (.iload 5, 2) := by decide +kernel
theorem dX6_carries_104 : decode cX6_carries 104 = .ok (.ifCond .eq 17, 3) := by decide +kernel
theorem dX6_carries_107 : decode cX6_carries 107 = .ok (.iload_n 3, 1) := by decide +kernel
theorem dX6_carries_108 : decode cX6_carries 108 = .ok (.bipush 103, 2) := by decide +kernel
theorem dX6_carries_110 : decode cX6_carries 110 = .ok (.if_icmp .ne 11, 3) := by decide +kernel
theorem dX6_carries_113 : decode cX6_carries 113 = .ok (.aload_n 0, 1) := by decide +kernel
theorem dX6_carries_114 : decode cX6_carries 114 = .ok (.iload_n 2, 1) := by decide +kernel
theorem dX6_carries_115 : decode cX6_carries 115 = .ok (.invokevirtual 124, 3) := by decide +kernel
theorem dX6_carries_118 : decode cX6_carries 118 = .ok (.goto 58, 3) := by decide +kernel
theorem dX6_carries_121 : decode cX6_carries 121 = .ok (.iload 5, 2) := by decide +kernel
theorem dX6_carries_123 : decode cX6_carries 123 = .ok (.ifCond .eq 53, 3) := by decide +kernel
theorem dX6_carries_126 : decode cX6_carries 126 = .ok (.iload_n 3, 1) := by decide +kernel
theorem dX6_carries_127 : decode cX6_carries 127 = .ok (.bipush 104, 2) := by decide +kernel
theorem dX6_carries_129 : decode cX6_carries 129 = .ok (.if_icmp .ne 11, 3) := by decide +kernel
theorem dX6_carries_132 : decode cX6_carries 132 = .ok (.aload_n 0, 1) := by decide +kernel
theorem dX6_carries_133 : decode cX6_carries 133 = .ok (.iload_n 2, 1) := by decide +kernel
theorem dX6_carries_134 : decode cX6_carries 134 = .ok (.invokevirtual 112, 3) := by decide +kernel
theorem dX6_carries_137 : decode cX6_carries 137 = .ok (.goto 37, 3) := by decide +kernel
theorem dX6_carries_140 : decode cX6_carries 140 = .ok (.iload_n 3, 1) := by decide +kernel
theorem dX6_carries_141 : decode cX6_carries 141 = .ok (.bipush 61, 2) := by decide +kernel
theorem dX6_carries_143 : decode cX6_carries 143 = .ok (.if_icmp .ne 13, 3) := by decide +kernel
theorem dX6_carries_146 : decode cX6_carries 146 = .ok (.aload_n 0, 1) := by decide +kernel
theorem dX6_carries_147 : decode cX6_carries 147 = .ok (.iload_n 2, 1) := by decide +kernel
theorem dX6_carries_148 : decode cX6_carries 148 = .ok (.iload 4, 2) := by decide +kernel
theorem dX6_carries_150 : decode cX6_carries 150 = .ok (.invokevirtual 109, 3) := by decide +kernel
theorem dX6_carries_153 : decode cX6_carries 153 = .ok (.goto 21, 3) := by decide +kernel
theorem dX6_carries_156 : decode cX6_carries 156 = .ok (.aload_n 0, 1) := by decide +kernel
theorem dX6_carries_157 : decode cX6_carries 157 = .ok (.iload_n 2, 1) := by decide +kernel
theorem dX6_carries_158 : decode cX6_carries 158 = .ok (.iload_n 3, 1) := by decide +kernel
theorem dX6_carries_159 : decode cX6_carries 159 = .ok (.bipush 43, 2) := by decide +kernel
theorem dX6_carries_161 : decode cX6_carries 161 = .ok (.if_icmp .ne 7, 3) := by decide +kernel
theorem dX6_carries_164 : decode cX6_carries 164 = .ok (.iconst 1, 1) := by decide +kernel
theorem dX6_carries_165 : decode cX6_carries 165 = .ok (.goto 4, 3) := by decide +kernel
theorem dX6_carries_168 : decode cX6_carries 168 = .ok (.iconst 0, 1) := by decide +kernel
theorem dX6_carries_169 : decode cX6_carries 169 = .ok (.iload 4, 2) := by decide +kernel
theorem dX6_carries_171 : decode cX6_carries 171 = .ok (.invokevirtual 92, 3) := by decide +kernel
theorem dX6_carries_174 : decode cX6_carries 174 = .ok (.istore 6, 2) := by decide +kernel
theorem dX6_carries_176 : decode cX6_carries 176 = .ok (.iload 5, 2) := by decide +kernel
theorem dX6_carries_178 : decode cX6_carries 178 = .ok (.ireturn, 1) := by decide +kernel
theorem dX6_run_0 : decode cX6_run 0 = .ok (.aload_n 0, 1) := by decide +kernel
theorem dX6_run_1 : decode cX6_run 1 = .ok (.invokevirtual 154, 3) := by decide +kernel
theorem dX6_run_4 : decode cX6_run 4 = .ok (.aload_n 0, 1) := by decide +kernel
theorem dX6_run_5 : decode cX6_run 5 = .ok (.getfield 127, 3) := by decide +kernel
theorem dX6_run_8 : decode cX6_run 8 = .ok (.if_icmp .ne 14, 3) := by decide +kernel
theorem dX6_run_11 : decode cX6_run 11 = .ok (.aload_n 0, 1) := by decide +kernel
theorem dX6_run_12 : decode cX6_run 12 = .ok (.invokevirtual 142, 3) := by decide +kernel
theorem dX6_run_15 : decode cX6_run 15 = .ok (.ifCond .eq 7, 3) := by decide +kernel
theorem dX6_run_18 : decode cX6_run 18 = .ok (.iconst 1, 1) := by decide +kernel
theorem dX6_run_19 : decode cX6_run 19 = .ok (.goto 4, 3) := by decide +kernel
theorem dX6_run_22 : decode cX6_run 22 = .ok (.iconst 0, 1) := by decide +kernel
theorem dX6_run_23 : decode cX6_run 23 = .ok (.istore_n 1, 1) := by decide +kernel
theorem dX6_run_24 : decode cX6_run 24 = .ok (.aload_n 0, 1) := by decide +kernel
theorem dX6_run_25 : decode cX6_run 25 = .ok (.iload_n 1, 1) := by decide +kernel
theorem dX6_run_26 : decode cX6_run 26 = .ok (.ifCond .eq 7, 3) := by decide +kernel
theorem dX6_run_29 : decode cX6_run 29 = .ok (.iconst 0, 1) := by decide +kernel
theorem dX6_run_30 : decode cX6_run 30 = .ok (.goto 4, 3) := by decide +kernel
theorem dX6_run_33 : decode cX6_run 33 = .ok (.iconst 1, 1) := by decide +kernel
theorem dX6_run_34 : decode cX6_run 34 = .ok (.putfield 29, 3) := by decide +kernel
theorem dX6_run_37 : decode cX6_run 37 = .ok (.aload_n 0, 1) := by decide +kernel
theorem dX6_run_38 : decode cX6_run 38 = .ok (.getfield 29, 3) := by decide +kernel
theorem dX6_run_41 : decode cX6_run 41 = .ok (.ifCond .le 5, 3) := by decide +kernel
theorem dX6_run_44 : decode cX6_run 44 = .ok (.iconst 0, 1) := by decide +kernel
theorem dX6_run_45 : decode cX6_run 45 = .ok (.ireturn, 1) := by decide +kernel
theorem dX6_run_46 : decode cX6_run 46 = .ok (.aload_n 0, 1) := by decide +kernel
theorem dX6_run_47 : decode cX6_run 47 = .ok (.invokevirtual 71, 3) := by decide +kernel
theorem dX6_run_50 : decode cX6_run 50 = .ok (.aload_n 0, 1) := by decide +kernel
theorem dX6_run_51 : decode cX6_run 51 = .ok (.invokevirtual 145, 3) := by decide +kernel
theorem dX6_run_54 : decode cX6_run 54 = .ok (.aload_n 0, 1) := by decide +kernel
theorem dX6_run_55 : decode cX6_run 55 = .ok (.iconst 0, 1) := by decide +kernel
theorem dX6_run_56 : decode cX6_run 56 = .ok (.putfield 127, 3) := by decide +kernel
theorem dX6_run_59 : decode cX6_run 59 = .ok (.iconst 0, 1) := by decide +kernel
theorem dX6_run_60 : decode cX6_run 60 = .ok (.istore_n 2, 1) := by decide +kernel
theorem dX6_run_61 : decode cX6_run 61 = .ok (.iload_n 2, 1) := by decide +kernel
theorem dX6_run_62 : decode cX6_run 62 = .ok (.aload_n 0, 1) := by decide +kernel
theorem dX6_run_63 : decode cX6_run 63 = .ok (.getfield 130, 3) := by decide +kernel
theorem dX6_run_66 : decode cX6_run 66 = .ok (.if_icmp .ge 17, 3) := by decide +kernel
theorem dX6_run_69 : decode cX6_run 69 = .ok (.aload_n 0, 1) := by decide +kernel
theorem dX6_run_70 : decode cX6_run 70 = .ok (.iload_n 2, 1) := by decide +kernel
theorem dX6_run_71 : decode cX6_run 71 = .ok (.invokevirtual 158, 3) := by decide +kernel
theorem dX6_run_74 : decode cX6_run 74 = .ok (.ifCond .eq 9, 3) := by decide +kernel
theorem dX6_run_77 : decode cX6_run 77 = .ok (.iinc 2 1, 3) := by decide +kernel
theorem dX6_run_80 : decode cX6_run 80 = .ok (.goto (-19), 3) := by decide +kernel
theorem dX6_run_83 : decode cX6_run 83 = .ok (.iload_n 2, 1) := by decide +kernel
theorem dX6_run_84 : decode cX6_run 84 = .ok (.ireturn, 1) := by decide +kernel
theorem dX6_undo_0 : decode cX6_undo 0 = .ok (.aload_n 0, 1) := by decide +kernel
theorem dX6_undo_1 : decode cX6_undo 1 = .ok (.aload_n 0, 1) := by decide +kernel
theorem dX6_undo_2 : decode cX6_undo 2 = .ok (.getfield 32, 3) := by decide +kernel
theorem dX6_undo_5 : decode cX6_undo 5 = .ok (.ifCond .le 7, 3) := by decide +kernel
theorem dX6_undo_8 : decode cX6_undo 8 = .ok (.iconst 0, 1) := by decide +kernel
theorem dX6_undo_9 : decode cX6_undo 9 = .ok (.goto 4, 3) := by decide +kernel
theorem dX6_undo_12 : decode cX6_undo 12 = .ok (.iconst 1, 1) := by decide +kernel
theorem dX6_undo_13 : decode cX6_undo 13 = .ok (.putfield 29, 3) := by decide +kernel
theorem dX6_undo_16 : decode cX6_undo 16 = .ok (.aload_n 0, 1) := by decide +kernel
theorem dX6_undo_17 : decode cX6_undo 17 = .ok (.getfield 29, 3) := by decide +kernel
theorem dX6_undo_20 : decode cX6_undo 20 = .ok (.ifCond .le 5, 3) := by decide +kernel
theorem dX6_undo_23 : decode cX6_undo 23 = .ok (.iconst 0, 1) := by decide +kernel
theorem dX6_undo_24 : decode cX6_undo 24 = .ok (.ireturn, 1) := by decide +kernel
theorem dX6_undo_25 : decode cX6_undo 25 = .ok (.aload_n 0, 1) := by decide +kernel
theorem dX6_undo_26 : decode cX6_undo 26 = .ok (.dup, 1) := by decide +kernel
theorem dX6_undo_27 : decode cX6_undo 27 = .ok (.getfield 32, 3) := by decide +kernel
theorem dX6_undo_30 : decode cX6_undo 30 = .ok (.iconst 1, 1) := by decide +kernel
theorem dX6_undo_31 : decode cX6_undo 31 = .ok (.isub, 1) := by decide +kernel
theorem dX6_undo_32 : decode cX6_undo 32 = .ok (.putfield 32, 3) := by decide +kernel
theorem dX6_undo_35 : decode cX6_undo 35 = .ok (.iconst 0, 1) := by decide +kernel
theorem dX6_undo_36 : decode cX6_undo 36 = .ok (.istore_n 1, 1) := by decide +kernel
theorem dX6_undo_37 : decode cX6_undo 37 = .ok (.iload_n 1, 1) := by decide +kernel
theorem dX6_undo_38 : decode cX6_undo 38 = .ok (.sipush 148, 3) := by decide +kernel
theorem dX6_undo_41 : decode cX6_undo 41 = .ok (.if_icmp .ge 30, 3) := by decide +kernel
theorem dX6_undo_44 : decode cX6_undo 44 = .ok (.aload_n 0, 1) := by decide +kernel
theorem dX6_undo_45 : decode cX6_undo 45 = .ok (.getfield 7, 3) := by decide +kernel
theorem dX6_undo_48 : decode cX6_undo 48 = .ok (.iload_n 1, 1) := by decide +kernel
end
section
theorem dX6_undo_49 : decode cX6_undo 49 = .ok (.aload_n 0, 1) := by decide +kernel
theorem dX6_undo_50 : decode cX6_undo 50 = .ok (.getfield 13, 3) := by decide +kernel
theorem dX6_undo_53 : decode cX6_undo 53 = .ok (.sipush 148, 3) := by decide +kernel
theorem dX6_undo_56 : decode cX6_undo 56 = .ok (.aload_n 0, 1) := by decide +kernel
theorem dX6_undo_57 : decode cX6_undo 57 = .ok (.getfield 32, 3) := by decide +kernel
theorem dX6_undo_60 : decode cX6_undo 60 = .ok (.imul, 1) := by decide +kernel
theorem dX6_undo_61 : decode cX6_undo 61 = .ok (.iload_n 1, 1) := by decide +kernel
theorem dX6_undo_62 : decode cX6_undo 62 = .ok (.iadd, 1) := by decide +kernel
theorem dX6_undo_63 : decode cX6_undo 63 = .ok (.iaload, 1) := by decide +kernel
theorem dX6_undo_64 : decode cX6_undo 64 = .ok (.iastore, 1) := by decide +kernel
theorem dX6_undo_65 : decode cX6_undo 65 = .ok (.iinc 1 1, 3) := by decide +kernel
theorem dX6_undo_68 : decode cX6_undo 68 = .ok (.goto (-31), 3) := by decide +kernel
theorem dX6_undo_71 : decode cX6_undo 71 = .ok (.aload_n 0, 1) := by decide +kernel
theorem dX6_undo_72 : decode cX6_undo 72 = .ok (.getfield 32, 3) := by decide +kernel
theorem dX6_undo_75 : decode cX6_undo 75 = .ok (.ireturn, 1) := by decide +kernel
theorem dX6_apart_0 : decode cX6_apart 0 = .ok (.iload_n 1, 1) := by decide +kernel
theorem dX6_apart_1 : decode cX6_apart 1 = .ok (.iload_n 0, 1) := by decide +kernel
theorem dX6_apart_2 : decode cX6_apart 2 = .ok (.isub, 1) := by decide +kernel
theorem dX6_apart_3 : decode cX6_apart 3 = .ok (.bipush 24, 2) := by decide +kernel
theorem dX6_apart_5 : decode cX6_apart 5 = .ok (.iadd, 1) := by decide +kernel
theorem dX6_apart_6 : decode cX6_apart 6 = .ok (.bipush 24, 2) := by decide +kernel
theorem dX6_apart_8 : decode cX6_apart 8 = .ok (.irem, 1) := by decide +kernel
theorem dX6_apart_9 : decode cX6_apart 9 = .ok (.istore_n 2, 1) := by decide +kernel
theorem dX6_apart_10 : decode cX6_apart 10 = .ok (.iload_n 2, 1) := by decide +kernel
theorem dX6_apart_11 : decode cX6_apart 11 = .ok (.bipush 24, 2) := by decide +kernel
theorem dX6_apart_13 : decode cX6_apart 13 = .ok (.iload_n 2, 1) := by decide +kernel
theorem dX6_apart_14 : decode cX6_apart 14 = .ok (.isub, 1) := by decide +kernel
theorem dX6_apart_15 : decode cX6_apart 15 = .ok (.if_icmp .le 10, 3) := by decide +kernel
theorem dX6_apart_18 : decode cX6_apart 18 = .ok (.bipush 24, 2) := by decide +kernel
theorem dX6_apart_20 : decode cX6_apart 20 = .ok (.iload_n 2, 1) := by decide +kernel
theorem dX6_apart_21 : decode cX6_apart 21 = .ok (.isub, 1) := by decide +kernel
theorem dX6_apart_22 : decode cX6_apart 22 = .ok (.goto 4, 3) := by decide +kernel
theorem dX6_apart_25 : decode cX6_apart 25 = .ok (.iload_n 2, 1) := by decide +kernel
theorem dX6_apart_26 : decode cX6_apart 26 = .ok (.ireturn, 1) := by decide +kernel
theorem dX6_axisNow_0 : decode cX6_axisNow 0 = .ok (.iload_n 2, 1) := by decide +kernel
theorem dX6_axisNow_1 : decode cX6_axisNow 1 = .ok (.tableswitch 59 9 11 #[27, 43, 51], 27) := by decide +kernel
theorem dX6_axisNow_28 : decode cX6_axisNow 28 = .ok (.aload_n 0, 1) := by decide +kernel
theorem dX6_axisNow_29 : decode cX6_axisNow 29 = .ok (.iload_n 1, 1) := by decide +kernel
theorem dX6_axisNow_30 : decode cX6_axisNow 30 = .ok (.iconst 0, 1) := by decide +kernel
theorem dX6_axisNow_31 : decode cX6_axisNow 31 = .ok (.invokevirtual 39, 3) := by decide +kernel
theorem dX6_axisNow_34 : decode cX6_axisNow 34 = .ok (.aload_n 0, 1) := by decide +kernel
theorem dX6_axisNow_35 : decode cX6_axisNow 35 = .ok (.iload_n 1, 1) := by decide +kernel
theorem dX6_axisNow_36 : decode cX6_axisNow 36 = .ok (.iconst 1, 1) := by decide +kernel
theorem dX6_axisNow_37 : decode cX6_axisNow 37 = .ok (.invokevirtual 39, 3) := by decide +kernel
theorem dX6_axisNow_40 : decode cX6_axisNow 40 = .ok (.invokestatic 161, 3) := by decide +kernel
theorem dX6_axisNow_43 : decode cX6_axisNow 43 = .ok (.ireturn, 1) := by decide +kernel
theorem dX6_axisNow_44 : decode cX6_axisNow 44 = .ok (.aload_n 0, 1) := by decide +kernel
theorem dX6_axisNow_45 : decode cX6_axisNow 45 = .ok (.iload_n 1, 1) := by decide +kernel
theorem dX6_axisNow_46 : decode cX6_axisNow 46 = .ok (.bipush 9, 2) := by decide +kernel
theorem dX6_axisNow_48 : decode cX6_axisNow 48 = .ok (.invokevirtual 39, 3) := by decide +kernel
theorem dX6_axisNow_51 : decode cX6_axisNow 51 = .ok (.ireturn, 1) := by decide +kernel
theorem dX6_axisNow_52 : decode cX6_axisNow 52 = .ok (.aload_n 0, 1) := by decide +kernel
theorem dX6_axisNow_53 : decode cX6_axisNow 53 = .ok (.iload_n 1, 1) := by decide +kernel
theorem dX6_axisNow_54 : decode cX6_axisNow 54 = .ok (.bipush 10, 2) := by decide +kernel
theorem dX6_axisNow_56 : decode cX6_axisNow 56 = .ok (.invokevirtual 39, 3) := by decide +kernel
theorem dX6_axisNow_59 : decode cX6_axisNow 59 = .ok (.ireturn, 1) := by decide +kernel
theorem dX6_axisNow_60 : decode cX6_axisNow 60 = .ok (.aload_n 0, 1) := by decide +kernel
theorem dX6_axisNow_61 : decode cX6_axisNow 61 = .ok (.iload_n 1, 1) := by decide +kernel
theorem dX6_axisNow_62 : decode cX6_axisNow 62 = .ok (.iload_n 2, 1) := by decide +kernel
theorem dX6_axisNow_63 : decode cX6_axisNow 63 = .ok (.invokevirtual 39, 3) := by decide +kernel
theorem dX6_axisNow_66 : decode cX6_axisNow 66 = .ok (.ireturn, 1) := by decide +kernel
theorem dX6_axis_0 : decode cX6_axis 0 = .ok (.aload_n 0, 1) := by decide +kernel
theorem dX6_axis_1 : decode cX6_axis 1 = .ok (.iload_n 1, 1) := by decide +kernel
theorem dX6_axis_2 : decode cX6_axis 2 = .ok (.invokestatic 74, 3) := by decide +kernel
theorem dX6_axis_5 : decode cX6_axis 5 = .ok (.ifCond .ne 7, 3) := by decide +kernel
theorem dX6_axis_8 : decode cX6_axis 8 = .ok (.iconst 1, 1) := by decide +kernel
theorem dX6_axis_9 : decode cX6_axis 9 = .ok (.goto 18, 3) := by decide +kernel
theorem dX6_axis_12 : decode cX6_axis 12 = .ok (.iload_n 2, 1) := by decide +kernel
theorem dX6_axis_13 : decode cX6_axis 13 = .ok (.iconst 0, 1) := by decide +kernel
theorem dX6_axis_14 : decode cX6_axis 14 = .ok (.bipush 11, 2) := by decide +kernel
theorem dX6_axis_16 : decode cX6_axis 16 = .ok (.invokestatic 35, 3) := by decide +kernel
theorem dX6_axis_19 : decode cX6_axis 19 = .ok (.ifCond .eq 7, 3) := by decide +kernel
theorem dX6_axis_22 : decode cX6_axis 22 = .ok (.iconst 0, 1) := by decide +kernel
theorem dX6_axis_23 : decode cX6_axis 23 = .ok (.goto 4, 3) := by decide +kernel
theorem dX6_axis_26 : decode cX6_axis 26 = .ok (.iconst 2, 1) := by decide +kernel
theorem dX6_axis_27 : decode cX6_axis 27 = .ok (.putfield 29, 3) := by decide +kernel
theorem dX6_axis_30 : decode cX6_axis 30 = .ok (.aload_n 0, 1) := by decide +kernel
theorem dX6_axis_31 : decode cX6_axis 31 = .ok (.getfield 29, 3) := by decide +kernel
theorem dX6_axis_34 : decode cX6_axis 34 = .ok (.ifCond .le 7, 3) := by decide +kernel
theorem dX6_axis_37 : decode cX6_axis 37 = .ok (.iconst 0, 1) := by decide +kernel
theorem dX6_axis_38 : decode cX6_axis 38 = .ok (.goto 9, 3) := by decide +kernel
theorem dX6_axis_41 : decode cX6_axis 41 = .ok (.aload_n 0, 1) := by decide +kernel
theorem dX6_axis_42 : decode cX6_axis 42 = .ok (.iload_n 1, 1) := by decide +kernel
theorem dX6_axis_43 : decode cX6_axis 43 = .ok (.iload_n 2, 1) := by decide +kernel
theorem dX6_axis_44 : decode cX6_axis 44 = .ok (.invokevirtual 164, 3) := by decide +kernel
theorem dX6_axis_47 : decode cX6_axis 47 = .ok (.ireturn, 1) := by decide +kernel
theorem dX6_wear_0 : decode cX6_wear 0 = .ok (.aload_n 0, 1) := by decide +kernel
theorem dX6_wear_1 : decode cX6_wear 1 = .ok (.iload_n 1, 1) := by decide +kernel
theorem dX6_wear_2 : decode cX6_wear 2 = .ok (.invokestatic 74, 3) := by decide +kernel
theorem dX6_wear_5 : decode cX6_wear 5 = .ok (.ifCond .eq 14, 3) := by decide +kernel
theorem dX6_wear_8 : decode cX6_wear 8 = .ok (.iload_n 2, 1) := by decide +kernel
theorem dX6_wear_9 : decode cX6_wear 9 = .ok (.invokestatic 103, 3) := by decide +kernel
theorem dX6_wear_12 : decode cX6_wear 12 = .ok (.ifCond .eq 7, 3) := by decide +kernel
theorem dX6_wear_15 : decode cX6_wear 15 = .ok (.iconst 0, 1) := by decide +kernel
theorem dX6_wear_16 : decode cX6_wear 16 = .ok (.goto 4, 3) := by decide +kernel
theorem dX6_wear_19 : decode cX6_wear 19 = .ok (.iconst 1, 1) := by decide +kernel
theorem dX6_wear_20 : decode cX6_wear 20 = .ok (.putfield 29, 3) := by decide +kernel
theorem dX6_wear_23 : decode cX6_wear 23 = .ok (.aload_n 0, 1) := by decide +kernel
theorem dX6_wear_24 : decode cX6_wear 24 = .ok (.getfield 29, 3) := by decide +kernel
theorem dX6_wear_27 : decode cX6_wear 27 = .ok (.ifCond .le 7, 3) := by decide +kernel
theorem dX6_wear_30 : decode cX6_wear 30 = .ok (.iconst 0, 1) := by decide +kernel
theorem dX6_wear_31 : decode cX6_wear 31 = .ok (.goto 12, 3) := by decide +kernel
theorem dX6_wear_34 : decode cX6_wear 34 = .ok (.aload_n 0, 1) := by decide +kernel
theorem dX6_wear_35 : decode cX6_wear 35 = .ok (.iload_n 1, 1) := by decide +kernel
theorem dX6_wear_36 : decode cX6_wear 36 = .ok (.bipush 11, 2) := by decide +kernel
theorem dX6_wear_38 : decode cX6_wear 38 = .ok (.iload_n 2, 1) := by decide +kernel
theorem dX6_wear_39 : decode cX6_wear 39 = .ok (.iadd, 1) := by decide +kernel
theorem dX6_wear_40 : decode cX6_wear 40 = .ok (.invokevirtual 39, 3) := by decide +kernel
theorem dX6_wear_43 : decode cX6_wear 43 = .ok (.ireturn, 1) := by decide +kernel
theorem dX6_sumOf_0 : decode cX6_sumOf 0 = .ok (.iconst 0, 1) := by decide +kernel
theorem dX6_sumOf_1 : decode cX6_sumOf 1 = .ok (.istore_n 2, 1) := by decide +kernel
theorem dX6_sumOf_2 : decode cX6_sumOf 2 = .ok (.iconst 0, 1) := by decide +kernel
theorem dX6_sumOf_3 : decode cX6_sumOf 3 = .ok (.istore_n 3, 1) := by decide +kernel
theorem dX6_sumOf_4 : decode cX6_sumOf 4 = .ok (.iload_n 3, 1) := by decide +kernel
theorem dX6_sumOf_5 : decode cX6_sumOf 5 = .ok (.iconst 4, 1) := by decide +kernel
theorem dX6_sumOf_6 : decode cX6_sumOf 6 = .ok (.if_icmp .ge 18, 3) := by decide +kernel
theorem dX6_sumOf_9 : decode cX6_sumOf 9 = .ok (.iload_n 2, 1) := by decide +kernel
theorem dX6_sumOf_10 : decode cX6_sumOf 10 = .ok (.aload_n 0, 1) := by decide +kernel
theorem dX6_sumOf_11 : decode cX6_sumOf 11 = .ok (.iload_n 3, 1) := by decide +kernel
theorem dX6_sumOf_12 : decode cX6_sumOf 12 = .ok (.iload_n 1, 1) := by decide +kernel
theorem dX6_sumOf_13 : decode cX6_sumOf 13 = .ok (.invokevirtual 39, 3) := by decide +kernel
theorem dX6_sumOf_16 : decode cX6_sumOf 16 = .ok (.iadd, 1) := by decide +kernel
theorem dX6_sumOf_17 : decode cX6_sumOf 17 = .ok (.istore_n 2, 1) := by decide +kernel
theorem dX6_sumOf_18 : decode cX6_sumOf 18 = .ok (.iinc 3 1, 3) := by decide +kernel
theorem dX6_sumOf_21 : decode cX6_sumOf 21 = .ok (.goto (-17), 3) := by decide +kernel
theorem dX6_sumOf_24 : decode cX6_sumOf 24 = .ok (.iload_n 2, 1) := by decide +kernel
theorem dX6_sumOf_25 : decode cX6_sumOf 25 = .ok (.ireturn, 1) := by decide +kernel
theorem dX6_wearOf_0 : decode cX6_wearOf 0 = .ok (.iconst 0, 1) := by decide +kernel
theorem dX6_wearOf_1 : decode cX6_wearOf 1 = .ok (.istore_n 2, 1) := by decide +kernel
theorem dX6_wearOf_2 : decode cX6_wearOf 2 = .ok (.iconst 0, 1) := by decide +kernel
theorem dX6_wearOf_3 : decode cX6_wearOf 3 = .ok (.istore_n 3, 1) := by decide +kernel
theorem dX6_wearOf_4 : decode cX6_wearOf 4 = .ok (.iload_n 3, 1) := by decide +kernel
theorem dX6_wearOf_5 : decode cX6_wearOf 5 = .ok (.bipush 96, 2) := by decide +kernel
theorem dX6_wearOf_7 : decode cX6_wearOf 7 = .ok (.if_icmp .ge 54, 3) := by decide +kernel
theorem dX6_wearOf_10 : decode cX6_wearOf 10 = .ok (.aload_n 0, 1) := by decide +kernel
theorem dX6_wearOf_11 : decode cX6_wearOf 11 = .ok (.iload_n 3, 1) := by decide +kernel
theorem dX6_wearOf_12 : decode cX6_wearOf 12 = .ok (.bipush 24, 2) := by decide +kernel
theorem dX6_wearOf_14 : decode cX6_wearOf 14 = .ok (.idiv, 1) := by decide +kernel
theorem dX6_wearOf_15 : decode cX6_wearOf 15 = .ok (.bipush 11, 2) := by decide +kernel
theorem dX6_wearOf_17 : decode cX6_wearOf 17 = .ok (.iload_n 3, 1) := by decide +kernel
theorem dX6_wearOf_18 : decode cX6_wearOf 18 = .ok (.bipush 24, 2) := by decide +kernel
theorem dX6_wearOf_20 : decode cX6_wearOf 20 = .ok (.irem, 1) := by decide +kernel
theorem dX6_wearOf_21 : decode cX6_wearOf 21 = .ok (.iadd, 1) := by decide +kernel
theorem dX6_wearOf_22 : decode cX6_wearOf 22 = .ok (.invokevirtual 39, 3) := by decide +kernel
theorem dX6_wearOf_25 : decode cX6_wearOf 25 = .ok (.istore 4, 2) := by decide +kernel
theorem dX6_wearOf_27 : decode cX6_wearOf 27 = .ok (.iload_n 2, 1) := by decide +kernel
theorem dX6_wearOf_28 : decode cX6_wearOf 28 = .ok (.iload_n 1, 1) := by decide +kernel
theorem dX6_wearOf_29 : decode cX6_wearOf 29 = .ok (.ifCond .ne 8, 3) := by decide +kernel
theorem dX6_wearOf_32 : decode cX6_wearOf 32 = .ok (.iload 4, 2) := by decide +kernel
theorem dX6_wearOf_34 : decode cX6_wearOf 34 = .ok (.goto 19, 3) := by decide +kernel
theorem dX6_wearOf_37 : decode cX6_wearOf 37 = .ok (.iload 4, 2) := by decide +kernel
theorem dX6_wearOf_39 : decode cX6_wearOf 39 = .ok (.aload_n 0, 1) := by decide +kernel
theorem dX6_wearOf_40 : decode cX6_wearOf 40 = .ok (.getfield 7, 3) := by decide +kernel
theorem dX6_wearOf_43 : decode cX6_wearOf 43 = .ok (.iconst 2, 1) := by decide +kernel
theorem dX6_wearOf_44 : decode cX6_wearOf 44 = .ok (.iaload, 1) := by decide +kernel
theorem dX6_wearOf_45 : decode cX6_wearOf 45 = .ok (.if_icmp .lt 7, 3) := by decide +kernel
theorem dX6_wearOf_48 : decode cX6_wearOf 48 = .ok (.iconst 1, 1) := by decide +kernel
theorem dX6_wearOf_49 : decode cX6_wearOf 49 = .ok (.goto 4, 3) := by decide +kernel
theorem dX6_wearOf_52 : decode cX6_wearOf 52 = .ok (.iconst 0, 1) := by decide +kernel
theorem dX6_wearOf_53 : decode cX6_wearOf 53 = .ok (.iadd, 1) := by decide +kernel
theorem dX6_wearOf_54 : decode cX6_wearOf 54 = .ok (.istore_n 2, 1) := by decide +kernel
theorem dX6_wearOf_55 : decode cX6_wearOf 55 = .ok (.iinc 3 1, 3) := by decide +kernel
theorem dX6_wearOf_58 : decode cX6_wearOf 58 = .ok (.goto (-54), 3) := by decide +kernel
theorem dX6_wearOf_61 : decode cX6_wearOf 61 = .ok (.iload_n 2, 1) := by decide +kernel
theorem dX6_wearOf_62 : decode cX6_wearOf 62 = .ok (.ireturn, 1) := by decide +kernel
theorem dX6_rightAxes_0 : decode cX6_rightAxes 0 = .ok (.iconst 0, 1) := by decide +kernel
theorem dX6_rightAxes_1 : decode cX6_rightAxes 1 = .ok (.istore_n 1, 1) := by decide +kernel
theorem dX6_rightAxes_2 : decode cX6_rightAxes 2 = .ok (.iconst 0, 1) := by decide +kernel
theorem dX6_rightAxes_3 : decode cX6_rightAxes 3 = .ok (.istore_n 2, 1) := by decide +kernel
theorem dX6_rightAxes_4 : decode cX6_rightAxes 4 = .ok (.iload_n 2, 1) := by decide +kernel
theorem dX6_rightAxes_5 : decode cX6_rightAxes 5 = .ok (.iconst 4, 1) := by decide +kernel
theorem dX6_rightAxes_6 : decode cX6_rightAxes 6 = .ok (.if_icmp .ge 32, 3) := by decide +kernel
theorem dX6_rightAxes_9 : decode cX6_rightAxes 9 = .ok (.iload_n 1, 1) := by decide +kernel
theorem dX6_rightAxes_10 : decode cX6_rightAxes 10 = .ok (.aload_n 0, 1) := by decide +kernel
theorem dX6_rightAxes_11 : decode cX6_rightAxes 11 = .ok (.iload_n 2, 1) := by decide +kernel
theorem dX6_rightAxes_12 : decode cX6_rightAxes 12 = .ok (.iconst 0, 1) := by decide +kernel
theorem dX6_rightAxes_13 : decode cX6_rightAxes 13 = .ok (.invokevirtual 39, 3) := by decide +kernel
theorem dX6_rightAxes_16 : decode cX6_rightAxes 16 = .ok (.aload_n 0, 1) := by decide +kernel
theorem dX6_rightAxes_17 : decode cX6_rightAxes 17 = .ok (.iload_n 2, 1) := by decide +kernel
theorem dX6_rightAxes_18 : decode cX6_rightAxes 18 = .ok (.iconst 1, 1) := by decide +kernel
theorem dX6_rightAxes_19 : decode cX6_rightAxes 19 = .ok (.invokevirtual 39, 3) := by decide +kernel
theorem dX6_rightAxes_22 : decode cX6_rightAxes 22 = .ok (.if_icmp .ne 7, 3) := by decide +kernel
theorem dX6_rightAxes_25 : decode cX6_rightAxes 25 = .ok (.iconst 1, 1) := by decide +kernel
theorem dX6_rightAxes_26 : decode cX6_rightAxes 26 = .ok (.goto 4, 3) := by decide +kernel
theorem dX6_rightAxes_29 : decode cX6_rightAxes 29 = .ok (.iconst 0, 1) := by decide +kernel
theorem dX6_rightAxes_30 : decode cX6_rightAxes 30 = .ok (.iadd, 1) := by decide +kernel
theorem dX6_rightAxes_31 : decode cX6_rightAxes 31 = .ok (.istore_n 1, 1) := by decide +kernel
theorem dX6_rightAxes_32 : decode cX6_rightAxes 32 = .ok (.iinc 2 1, 3) := by decide +kernel
theorem dX6_rightAxes_35 : decode cX6_rightAxes 35 = .ok (.goto (-31), 3) := by decide +kernel
theorem dX6_rightAxes_38 : decode cX6_rightAxes 38 = .ok (.iload_n 1, 1) := by decide +kernel
theorem dX6_rightAxes_39 : decode cX6_rightAxes 39 = .ok (.ireturn, 1) := by decide +kernel
theorem dX6_counted_0 : decode cX6_counted 0 = .ok (.iload_n 1, 1) := by decide +kernel
theorem dX6_counted_1 : decode cX6_counted 1 = .ok (.tableswitch 101 0 7 #[47, 55, 62, 69, 76, 84, 90, 96], 47) := by decide +kernel
theorem dX6_counted_48 : decode cX6_counted 48 = .ok (.aload_n 0, 1) := by decide +kernel
theorem dX6_counted_49 : decode cX6_counted 49 = .ok (.getfield 7, 3) := by decide +kernel
theorem dX6_counted_52 : decode cX6_counted 52 = .ok (.bipush 6, 2) := by decide +kernel
theorem dX6_counted_54 : decode cX6_counted 54 = .ok (.iaload, 1) := by decide +kernel
theorem dX6_counted_55 : decode cX6_counted 55 = .ok (.ireturn, 1) := by decide +kernel
theorem dX6_counted_56 : decode cX6_counted 56 = .ok (.aload_n 0, 1) := by decide +kernel
theorem dX6_counted_57 : decode cX6_counted 57 = .ok (.bipush 6, 2) := by decide +kernel
theorem dX6_counted_59 : decode cX6_counted 59 = .ok (.invokevirtual 167, 3) := by decide +kernel
theorem dX6_counted_62 : decode cX6_counted 62 = .ok (.ireturn, 1) := by decide +kernel
theorem dX6_counted_63 : decode cX6_counted 63 = .ok (.aload_n 0, 1) := by decide +kernel
theorem dX6_counted_64 : decode cX6_counted 64 = .ok (.bipush 8, 2) := by decide +kernel
theorem dX6_counted_66 : decode cX6_counted 66 = .ok (.invokevirtual 167, 3) := by decide +kernel
theorem dX6_counted_69 : decode cX6_counted 69 = .ok (.ireturn, 1) := by decide +kernel
theorem dX6_counted_70 : decode cX6_counted 70 = .ok (.aload_n 0, 1) := by decide +kernel
theorem dX6_counted_71 : decode cX6_counted 71 = .ok (.bipush 7, 2) := by decide +kernel
theorem dX6_counted_73 : decode cX6_counted 73 = .ok (.invokevirtual 167, 3) := by decide +kernel
theorem dX6_counted_76 : decode cX6_counted 76 = .ok (.ireturn, 1) := by decide +kernel
theorem dX6_counted_77 : decode cX6_counted 77 = .ok (.aload_n 0, 1) := by decide +kernel
theorem dX6_counted_78 : decode cX6_counted 78 = .ok (.getfield 7, 3) := by decide +kernel
theorem dX6_counted_81 : decode cX6_counted 81 = .ok (.bipush 7, 2) := by decide +kernel
theorem dX6_counted_83 : decode cX6_counted 83 = .ok (.iaload, 1) := by decide +kernel
theorem dX6_counted_84 : decode cX6_counted 84 = .ok (.ireturn, 1) := by decide +kernel
theorem dX6_counted_85 : decode cX6_counted 85 = .ok (.aload_n 0, 1) := by decide +kernel
theorem dX6_counted_86 : decode cX6_counted 86 = .ok (.iconst 0, 1) := by decide +kernel
theorem dX6_counted_87 : decode cX6_counted 87 = .ok (.invokevirtual 170, 3) := by decide +kernel
theorem dX6_counted_90 : decode cX6_counted 90 = .ok (.ireturn, 1) := by decide +kernel
theorem dX6_counted_91 : decode cX6_counted 91 = .ok (.aload_n 0, 1) := by decide +kernel
theorem dX6_counted_92 : decode cX6_counted 92 = .ok (.iconst 1, 1) := by decide +kernel
theorem dX6_counted_93 : decode cX6_counted 93 = .ok (.invokevirtual 170, 3) := by decide +kernel
theorem dX6_counted_96 : decode cX6_counted 96 = .ok (.ireturn, 1) := by decide +kernel
theorem dX6_counted_97 : decode cX6_counted 97 = .ok (.aload_n 0, 1) := by decide +kernel
theorem dX6_counted_98 : decode cX6_counted 98 = .ok (.invokevirtual 174, 3) := by decide +kernel
theorem dX6_counted_101 : decode cX6_counted 101 = .ok (.ireturn, 1) := by decide +kernel
theorem dX6_counted_102 : decode cX6_counted 102 = .ok (.aload_n 0, 1) := by decide +kernel
theorem dX6_counted_103 : decode cX6_counted 103 = .ok (.getfield 32, 3) := by decide +kernel
theorem dX6_counted_106 : decode cX6_counted 106 = .ok (.ireturn, 1) := by decide +kernel
theorem dX6_count_0 : decode cX6_count 0 = .ok (.aload_n 0, 1) := by decide +kernel
theorem dX6_count_1 : decode cX6_count 1 = .ok (.iload_n 1, 1) := by decide +kernel
theorem dX6_count_2 : decode cX6_count 2 = .ok (.iconst 0, 1) := by decide +kernel
theorem dX6_count_3 : decode cX6_count 3 = .ok (.bipush 8, 2) := by decide +kernel
theorem dX6_count_5 : decode cX6_count 5 = .ok (.invokestatic 35, 3) := by decide +kernel
theorem dX6_count_8 : decode cX6_count 8 = .ok (.ifCond .eq 7, 3) := by decide +kernel
theorem dX6_count_11 : decode cX6_count 11 = .ok (.iconst 0, 1) := by decide +kernel
theorem dX6_count_12 : decode cX6_count 12 = .ok (.goto 4, 3) := by decide +kernel
theorem dX6_count_15 : decode cX6_count 15 = .ok (.iconst 1, 1) := by decide +kernel
theorem dX6_count_16 : decode cX6_count 16 = .ok (.putfield 29, 3) := by decide +kernel
theorem dX6_count_19 : decode cX6_count 19 = .ok (.aload_n 0, 1) := by decide +kernel
theorem dX6_count_20 : decode cX6_count 20 = .ok (.getfield 29, 3) := by decide +kernel
theorem dX6_count_23 : decode cX6_count 23 = .ok (.ifCond .le 7, 3) := by decide +kernel
theorem dX6_count_26 : decode cX6_count 26 = .ok (.iconst 0, 1) := by decide +kernel
theorem dX6_count_27 : decode cX6_count 27 = .ok (.goto 8, 3) := by decide +kernel
theorem dX6_count_30 : decode cX6_count 30 = .ok (.aload_n 0, 1) := by decide +kernel
theorem dX6_count_31 : decode cX6_count 31 = .ok (.iload_n 1, 1) := by decide +kernel
theorem dX6_count_32 : decode cX6_count 32 = .ok (.invokevirtual 177, 3) := by decide +kernel
theorem dX6_count_35 : decode cX6_count 35 = .ok (.ireturn, 1) := by decide +kernel
theorem dX6_setting_0 : decode cX6_setting 0 = .ok (.aload_n 0, 1) := by decide +kernel
theorem dX6_setting_1 : decode cX6_setting 1 = .ok (.iload_n 1, 1) := by decide +kernel
theorem dX6_setting_2 : decode cX6_setting 2 = .ok (.invokestatic 78, 3) := by decide +kernel
theorem dX6_setting_5 : decode cX6_setting 5 = .ok (.ifCond .eq 7, 3) := by decide +kernel
theorem dX6_setting_8 : decode cX6_setting 8 = .ok (.iconst 0, 1) := by decide +kernel
theorem dX6_setting_9 : decode cX6_setting 9 = .ok (.goto 4, 3) := by decide +kernel
theorem dX6_setting_12 : decode cX6_setting 12 = .ok (.iconst 1, 1) := by decide +kernel
theorem dX6_setting_13 : decode cX6_setting 13 = .ok (.putfield 29, 3) := by decide +kernel
theorem dX6_setting_16 : decode cX6_setting 16 = .ok (.aload_n 0, 1) := by decide +kernel
theorem dX6_setting_17 : decode cX6_setting 17 = .ok (.getfield 29, 3) := by decide +kernel
theorem dX6_setting_20 : decode cX6_setting 20 = .ok (.ifCond .le 7, 3) := by decide +kernel
theorem dX6_setting_23 : decode cX6_setting 23 = .ok (.iconst 0, 1) := by decide +kernel
theorem dX6_setting_24 : decode cX6_setting 24 = .ok (.goto 11, 3) := by decide +kernel
theorem dX6_setting_27 : decode cX6_setting 27 = .ok (.aload_n 0, 1) := by decide +kernel
theorem dX6_setting_28 : decode cX6_setting 28 = .ok (.getfield 7, 3) := by decide +kernel
theorem dX6_setting_31 : decode cX6_setting 31 = .ok (.iconst 0, 1) := by decide +kernel
theorem dX6_setting_32 : decode cX6_setting 32 = .ok (.iload_n 1, 1) := by decide +kernel
theorem dX6_setting_33 : decode cX6_setting 33 = .ok (.iadd, 1) := by decide +kernel
theorem dX6_setting_34 : decode cX6_setting 34 = .ok (.iaload, 1) := by decide +kernel
theorem dX6_setting_35 : decode cX6_setting 35 = .ok (.ireturn, 1) := by decide +kernel
theorem dX6_toll_0 : decode cX6_toll 0 = .ok (.aload_n 0, 1) := by decide +kernel
theorem dX6_toll_1 : decode cX6_toll 1 = .ok (.iload_n 1, 1) := by decide +kernel
theorem dX6_toll_2 : decode cX6_toll 2 = .ok (.invokestatic 74, 3) := by decide +kernel
theorem dX6_toll_5 : decode cX6_toll 5 = .ok (.ifCond .eq 7, 3) := by decide +kernel
theorem dX6_toll_8 : decode cX6_toll 8 = .ok (.iconst 0, 1) := by decide +kernel
theorem dX6_toll_9 : decode cX6_toll 9 = .ok (.goto 4, 3) := by decide +kernel
theorem dX6_toll_12 : decode cX6_toll 12 = .ok (.iconst 1, 1) := by decide +kernel
theorem dX6_toll_13 : decode cX6_toll 13 = .ok (.putfield 29, 3) := by decide +kernel
theorem dX6_toll_16 : decode cX6_toll 16 = .ok (.aload_n 0, 1) := by decide +kernel
theorem dX6_toll_17 : decode cX6_toll 17 = .ok (.getfield 29, 3) := by decide +kernel
theorem dX6_toll_20 : decode cX6_toll 20 = .ok (.ifCond .le 7, 3) := by decide +kernel
theorem dX6_toll_23 : decode cX6_toll 23 = .ok (.iconst 0, 1) := by decide +kernel
theorem dX6_toll_24 : decode cX6_toll 24 = .ok (.goto 9, 3) := by decide +kernel
theorem dX6_toll_27 : decode cX6_toll 27 = .ok (.aload_n 0, 1) := by decide +kernel
theorem dX6_toll_28 : decode cX6_toll 28 = .ok (.iload_n 1, 1) := by decide +kernel
theorem dX6_toll_29 : decode cX6_toll 29 = .ok (.iload_n 2, 1) := by decide +kernel
theorem dX6_toll_30 : decode cX6_toll 30 = .ok (.invokevirtual 54, 3) := by decide +kernel
theorem dX6_toll_33 : decode cX6_toll 33 = .ok (.ireturn, 1) := by decide +kernel
theorem dX6_slips_0 : decode cX6_slips 0 = .ok (.aload_n 0, 1) := by decide +kernel
theorem dX6_slips_1 : decode cX6_slips 1 = .ok (.iload_n 1, 1) := by decide +kernel
theorem dX6_slips_2 : decode cX6_slips 2 = .ok (.invokestatic 74, 3) := by decide +kernel
theorem dX6_slips_5 : decode cX6_slips 5 = .ok (.ifCond .eq 7, 3) := by decide +kernel
theorem dX6_slips_8 : decode cX6_slips 8 = .ok (.iconst 0, 1) := by decide +kernel
theorem dX6_slips_9 : decode cX6_slips 9 = .ok (.goto 4, 3) := by decide +kernel
theorem dX6_slips_12 : decode cX6_slips 12 = .ok (.iconst 1, 1) := by decide +kernel
theorem dX6_slips_13 : decode cX6_slips 13 = .ok (.putfield 29, 3) := by decide +kernel
theorem dX6_slips_16 : decode cX6_slips 16 = .ok (.aload_n 0, 1) := by decide +kernel
theorem dX6_slips_17 : decode cX6_slips 17 = .ok (.getfield 29, 3) := by decide +kernel
theorem dX6_slips_20 : decode cX6_slips 20 = .ok (.ifCond .le 7, 3) := by decide +kernel
theorem dX6_slips_23 : decode cX6_slips 23 = .ok (.iconst 0, 1) := by decide +kernel
theorem dX6_slips_24 : decode cX6_slips 24 = .ok (.goto 9, 3) := by decide +kernel
theorem dX6_slips_27 : decode cX6_slips 27 = .ok (.aload_n 0, 1) := by decide +kernel
theorem dX6_slips_28 : decode cX6_slips 28 = .ok (.iload_n 1, 1) := by decide +kernel
theorem dX6_slips_29 : decode cX6_slips 29 = .ok (.iload_n 2, 1) := by decide +kernel
theorem dX6_slips_30 : decode cX6_slips 30 = .ok (.invokevirtual 57, 3) := by decide +kernel
theorem dX6_slips_33 : decode cX6_slips 33 = .ok (.ireturn, 1) := by decide +kernel
theorem dX6_cost_0 : decode cX6_cost 0 = .ok (.aload_n 0, 1) := by decide +kernel
theorem dX6_cost_1 : decode cX6_cost 1 = .ok (.iload_n 1, 1) := by decide +kernel
theorem dX6_cost_2 : decode cX6_cost 2 = .ok (.invokestatic 74, 3) := by decide +kernel
theorem dX6_cost_5 : decode cX6_cost 5 = .ok (.ifCond .ne 7, 3) := by decide +kernel
theorem dX6_cost_8 : decode cX6_cost 8 = .ok (.iconst 1, 1) := by decide +kernel
theorem dX6_cost_9 : decode cX6_cost 9 = .ok (.goto 15, 3) := by decide +kernel
theorem dX6_cost_12 : decode cX6_cost 12 = .ok (.iload_n 2, 1) := by decide +kernel
theorem dX6_cost_13 : decode cX6_cost 13 = .ok (.invokestatic 103, 3) := by decide +kernel
theorem dX6_cost_16 : decode cX6_cost 16 = .ok (.ifCond .eq 7, 3) := by decide +kernel
theorem dX6_cost_19 : decode cX6_cost 19 = .ok (.iconst 0, 1) := by decide +kernel
theorem dX6_cost_20 : decode cX6_cost 20 = .ok (.goto 4, 3) := by decide +kernel
theorem dX6_cost_23 : decode cX6_cost 23 = .ok (.iconst 2, 1) := by decide +kernel
theorem dX6_cost_24 : decode cX6_cost 24 = .ok (.putfield 29, 3) := by decide +kernel
theorem dX6_cost_27 : decode cX6_cost 27 = .ok (.aload_n 0, 1) := by decide +kernel
theorem dX6_cost_28 : decode cX6_cost 28 = .ok (.getfield 29, 3) := by decide +kernel
theorem dX6_cost_31 : decode cX6_cost 31 = .ok (.ifCond .le 7, 3) := by decide +kernel
theorem dX6_cost_34 : decode cX6_cost 34 = .ok (.iconst 0, 1) := by decide +kernel
theorem dX6_cost_35 : decode cX6_cost 35 = .ok (.goto 10, 3) := by decide +kernel
theorem dX6_cost_38 : decode cX6_cost 38 = .ok (.aload_n 0, 1) := by decide +kernel
theorem dX6_cost_39 : decode cX6_cost 39 = .ok (.iload_n 1, 1) := by decide +kernel
theorem dX6_cost_40 : decode cX6_cost 40 = .ok (.iload_n 2, 1) := by decide +kernel
theorem dX6_cost_41 : decode cX6_cost 41 = .ok (.iload_n 3, 1) := by decide +kernel
theorem dX6_cost_42 : decode cX6_cost 42 = .ok (.invokevirtual 96, 3) := by decide +kernel
theorem dX6_cost_45 : decode cX6_cost 45 = .ok (.ireturn, 1) := by decide +kernel
theorem dX6_keep_0 : decode cX6_keep 0 = .ok (.iconst 0, 1) := by decide +kernel
theorem dX6_keep_1 : decode cX6_keep 1 = .ok (.istore_n 1, 1) := by decide +kernel
theorem dX6_keep_2 : decode cX6_keep 2 = .ok (.iload_n 1, 1) := by decide +kernel
theorem dX6_keep_3 : decode cX6_keep 3 = .ok (.sipush 148, 3) := by decide +kernel
theorem dX6_keep_6 : decode cX6_keep 6 = .ok (.if_icmp .ge 21, 3) := by decide +kernel
theorem dX6_keep_9 : decode cX6_keep 9 = .ok (.aload_n 0, 1) := by decide +kernel
theorem dX6_keep_10 : decode cX6_keep 10 = .ok (.getfield 26, 3) := by decide +kernel
theorem dX6_keep_13 : decode cX6_keep 13 = .ok (.iload_n 1, 1) := by decide +kernel
theorem dX6_keep_14 : decode cX6_keep 14 = .ok (.aload_n 0, 1) := by decide +kernel
theorem dX6_keep_15 : decode cX6_keep 15 = .ok (.getfield 7, 3) := by decide +kernel
theorem dX6_keep_18 : decode cX6_keep 18 = .ok (.iload_n 1, 1) := by decide +kernel
theorem dX6_keep_19 : decode cX6_keep 19 = .ok (.iaload, 1) := by decide +kernel
theorem dX6_keep_20 : decode cX6_keep 20 = .ok (.iastore, 1) := by decide +kernel
theorem dX6_keep_21 : decode cX6_keep 21 = .ok (.iinc 1 1, 3) := by decide +kernel
theorem dX6_keep_24 : decode cX6_keep 24 = .ok (.goto (-22), 3) := by decide +kernel
theorem dX6_keep_27 : decode cX6_keep 27 = .ok (.return_, 1) := by decide +kernel
theorem dX6_layBack_0 : decode cX6_layBack 0 = .ok (.iconst 0, 1) := by decide +kernel
theorem dX6_layBack_1 : decode cX6_layBack 1 = .ok (.istore_n 1, 1) := by decide +kernel
theorem dX6_layBack_2 : decode cX6_layBack 2 = .ok (.iload_n 1, 1) := by decide +kernel
theorem dX6_layBack_3 : decode cX6_layBack 3 = .ok (.sipush 148, 3) := by decide +kernel
theorem dX6_layBack_6 : decode cX6_layBack 6 = .ok (.if_icmp .ge 21, 3) := by decide +kernel
theorem dX6_layBack_9 : decode cX6_layBack 9 = .ok (.aload_n 0, 1) := by decide +kernel
theorem dX6_layBack_10 : decode cX6_layBack 10 = .ok (.getfield 7, 3) := by decide +kernel
theorem dX6_layBack_13 : decode cX6_layBack 13 = .ok (.iload_n 1, 1) := by decide +kernel
theorem dX6_layBack_14 : decode cX6_layBack 14 = .ok (.aload_n 0, 1) := by decide +kernel
theorem dX6_layBack_15 : decode cX6_layBack 15 = .ok (.getfield 26, 3) := by decide +kernel
theorem dX6_layBack_18 : decode cX6_layBack 18 = .ok (.iload_n 1, 1) := by decide +kernel
theorem dX6_layBack_19 : decode cX6_layBack 19 = .ok (.iaload, 1) := by decide +kernel
theorem dX6_layBack_20 : decode cX6_layBack 20 = .ok (.iastore, 1) := by decide +kernel
theorem dX6_layBack_21 : decode cX6_layBack 21 = .ok (.iinc 1 1, 3) := by decide +kernel
theorem dX6_layBack_24 : decode cX6_layBack 24 = .ok (.goto (-22), 3) := by decide +kernel
theorem dX6_layBack_27 : decode cX6_layBack 27 = .ok (.return_, 1) := by decide +kernel
theorem dX6_homedThen_0 : decode cX6_homedThen 0 = .ok (.aload_n 0, 1) := by decide +kernel
theorem dX6_homedThen_1 : decode cX6_homedThen 1 = .ok (.invokevirtual 180, 3) := by decide +kernel
theorem dX6_homedThen_4 : decode cX6_homedThen 4 = .ok (.aload_n 0, 1) := by decide +kernel
theorem dX6_homedThen_5 : decode cX6_homedThen 5 = .ok (.iload_n 1, 1) := by decide +kernel
theorem dX6_homedThen_6 : decode cX6_homedThen 6 = .ok (.bipush 6, 2) := by decide +kernel
theorem dX6_homedThen_8 : decode cX6_homedThen 8 = .ok (.invokevirtual 39, 3) := by decide +kernel
theorem dX6_homedThen_11 : decode cX6_homedThen 11 = .ok (.istore_n 3, 1) := by decide +kernel
theorem dX6_homedThen_12 : decode cX6_homedThen 12 = .ok (.aload_n 0, 1) := by decide +kernel
theorem dX6_homedThen_13 : decode cX6_homedThen 13 = .ok (.iload_n 1, 1) := by decide +kernel
theorem dX6_homedThen_14 : decode cX6_homedThen 14 = .ok (.bipush 8, 2) := by decide +kernel
theorem dX6_homedThen_16 : decode cX6_homedThen 16 = .ok (.invokevirtual 39, 3) := by decide +kernel
theorem dX6_homedThen_19 : decode cX6_homedThen 19 = .ok (.istore 4, 2) := by decide +kernel
theorem dX6_homedThen_21 : decode cX6_homedThen 21 = .ok (.aload_n 0, 1) := by decide +kernel
theorem dX6_homedThen_22 : decode cX6_homedThen 22 = .ok (.iload_n 1, 1) := by decide +kernel
theorem dX6_homedThen_23 : decode cX6_homedThen 23 = .ok (.invokevirtual 112, 3) := by decide +kernel
theorem dX6_homedThen_26 : decode cX6_homedThen 26 = .ok (.istore 5, 2) := by decide +kernel
theorem dX6_homedThen_28 : decode cX6_homedThen 28 = .ok (.iload_n 2, 1) := by decide +kernel
theorem dX6_homedThen_29 : decode cX6_homedThen 29 = .ok (.ifCond .ne 15, 3) := by decide +kernel
theorem dX6_homedThen_32 : decode cX6_homedThen 32 = .ok (.aload_n 0, 1) := by decide +kernel
theorem dX6_homedThen_33 : decode cX6_homedThen 33 = .ok (.iload_n 1, 1) := by decide +kernel
theorem dX6_homedThen_34 : decode cX6_homedThen 34 = .ok (.bipush 6, 2) := by decide +kernel
theorem dX6_homedThen_36 : decode cX6_homedThen 36 = .ok (.invokevirtual 39, 3) := by decide +kernel
theorem dX6_homedThen_39 : decode cX6_homedThen 39 = .ok (.iload_n 3, 1) := by decide +kernel
theorem dX6_homedThen_40 : decode cX6_homedThen 40 = .ok (.isub, 1) := by decide +kernel
theorem dX6_homedThen_41 : decode cX6_homedThen 41 = .ok (.goto 32, 3) := by decide +kernel
theorem dX6_homedThen_44 : decode cX6_homedThen 44 = .ok (.iload_n 2, 1) := by decide +kernel
theorem dX6_homedThen_45 : decode cX6_homedThen 45 = .ok (.iconst 1, 1) := by decide +kernel
theorem dX6_homedThen_46 : decode cX6_homedThen 46 = .ok (.if_icmp .ne 16, 3) := by decide +kernel
theorem dX6_homedThen_49 : decode cX6_homedThen 49 = .ok (.aload_n 0, 1) := by decide +kernel
theorem dX6_homedThen_50 : decode cX6_homedThen 50 = .ok (.iload_n 1, 1) := by decide +kernel
theorem dX6_homedThen_51 : decode cX6_homedThen 51 = .ok (.bipush 8, 2) := by decide +kernel
theorem dX6_homedThen_53 : decode cX6_homedThen 53 = .ok (.invokevirtual 39, 3) := by decide +kernel
theorem dX6_homedThen_56 : decode cX6_homedThen 56 = .ok (.iload 4, 2) := by decide +kernel
theorem dX6_homedThen_58 : decode cX6_homedThen 58 = .ok (.isub, 1) := by decide +kernel
theorem dX6_homedThen_59 : decode cX6_homedThen 59 = .ok (.goto 14, 3) := by decide +kernel
theorem dX6_homedThen_62 : decode cX6_homedThen 62 = .ok (.iload 5, 2) := by decide +kernel
theorem dX6_homedThen_64 : decode cX6_homedThen 64 = .ok (.iconst (-1), 1) := by decide +kernel
theorem dX6_homedThen_65 : decode cX6_homedThen 65 = .ok (.if_icmp .ne 7, 3) := by decide +kernel
theorem dX6_homedThen_68 : decode cX6_homedThen 68 = .ok (.iconst 0, 1) := by decide +kernel
theorem dX6_homedThen_69 : decode cX6_homedThen 69 = .ok (.goto 4, 3) := by decide +kernel
theorem dX6_homedThen_72 : decode cX6_homedThen 72 = .ok (.iconst 1, 1) := by decide +kernel
theorem dX6_homedThen_73 : decode cX6_homedThen 73 = .ok (.istore 6, 2) := by decide +kernel
theorem dX6_homedThen_75 : decode cX6_homedThen 75 = .ok (.aload_n 0, 1) := by decide +kernel
theorem dX6_homedThen_76 : decode cX6_homedThen 76 = .ok (.invokevirtual 183, 3) := by decide +kernel
theorem dX6_homedThen_79 : decode cX6_homedThen 79 = .ok (.iload 6, 2) := by decide +kernel
theorem dX6_homedThen_81 : decode cX6_homedThen 81 = .ok (.ireturn, 1) := by decide +kernel
theorem dX6_ifHomed_0 : decode cX6_ifHomed 0 = .ok (.aload_n 0, 1) := by decide +kernel
theorem dX6_ifHomed_1 : decode cX6_ifHomed 1 = .ok (.iload_n 1, 1) := by decide +kernel
theorem dX6_ifHomed_2 : decode cX6_ifHomed 2 = .ok (.invokestatic 74, 3) := by decide +kernel
theorem dX6_ifHomed_5 : decode cX6_ifHomed 5 = .ok (.ifCond .ne 7, 3) := by decide +kernel
theorem dX6_ifHomed_8 : decode cX6_ifHomed 8 = .ok (.iconst 1, 1) := by decide +kernel
theorem dX6_ifHomed_9 : decode cX6_ifHomed 9 = .ok (.goto 17, 3) := by decide +kernel
theorem dX6_ifHomed_12 : decode cX6_ifHomed 12 = .ok (.iload_n 2, 1) := by decide +kernel
theorem dX6_ifHomed_13 : decode cX6_ifHomed 13 = .ok (.iconst 0, 1) := by decide +kernel
theorem dX6_ifHomed_14 : decode cX6_ifHomed 14 = .ok (.iconst 2, 1) := by decide +kernel
theorem dX6_ifHomed_15 : decode cX6_ifHomed 15 = .ok (.invokestatic 35, 3) := by decide +kernel
theorem dX6_ifHomed_18 : decode cX6_ifHomed 18 = .ok (.ifCond .eq 7, 3) := by decide +kernel
theorem dX6_ifHomed_21 : decode cX6_ifHomed 21 = .ok (.iconst 0, 1) := by decide +kernel
theorem dX6_ifHomed_22 : decode cX6_ifHomed 22 = .ok (.goto 4, 3) := by decide +kernel
theorem dX6_ifHomed_25 : decode cX6_ifHomed 25 = .ok (.iconst 2, 1) := by decide +kernel
theorem dX6_ifHomed_26 : decode cX6_ifHomed 26 = .ok (.putfield 29, 3) := by decide +kernel
theorem dX6_ifHomed_29 : decode cX6_ifHomed 29 = .ok (.aload_n 0, 1) := by decide +kernel
theorem dX6_ifHomed_30 : decode cX6_ifHomed 30 = .ok (.getfield 29, 3) := by decide +kernel
theorem dX6_ifHomed_33 : decode cX6_ifHomed 33 = .ok (.ifCond .le 7, 3) := by decide +kernel
theorem dX6_ifHomed_36 : decode cX6_ifHomed 36 = .ok (.iconst 0, 1) := by decide +kernel
theorem dX6_ifHomed_37 : decode cX6_ifHomed 37 = .ok (.goto 9, 3) := by decide +kernel
theorem dX6_ifHomed_40 : decode cX6_ifHomed 40 = .ok (.aload_n 0, 1) := by decide +kernel
theorem dX6_ifHomed_41 : decode cX6_ifHomed 41 = .ok (.iload_n 1, 1) := by decide +kernel
theorem dX6_ifHomed_42 : decode cX6_ifHomed 42 = .ok (.iload_n 2, 1) := by decide +kernel
theorem dX6_ifHomed_43 : decode cX6_ifHomed 43 = .ok (.invokevirtual 186, 3) := by decide +kernel
theorem dX6_ifHomed_46 : decode cX6_ifHomed 46 = .ok (.ireturn, 1) := by decide +kernel
theorem dX6_reachNow_0 : decode cX6_reachNow 0 = .ok (.aload_n 0, 1) := by decide +kernel
theorem dX6_reachNow_1 : decode cX6_reachNow 1 = .ok (.invokevirtual 180, 3) := by decide +kernel
theorem dX6_reachNow_4 : decode cX6_reachNow 4 = .ok (.aload_n 0, 1) := by decide +kernel
theorem dX6_reachNow_5 : decode cX6_reachNow 5 = .ok (.iload_n 1, 1) := by decide +kernel
theorem dX6_reachNow_6 : decode cX6_reachNow 6 = .ok (.iload_n 2, 1) := by decide +kernel
theorem dX6_reachNow_7 : decode cX6_reachNow 7 = .ok (.bipush 100, 2) := by decide +kernel
theorem dX6_reachNow_9 : decode cX6_reachNow 9 = .ok (.invokevirtual 92, 3) := by decide +kernel
theorem dX6_reachNow_12 : decode cX6_reachNow 12 = .ok (.istore_n 3, 1) := by decide +kernel
theorem dX6_reachNow_13 : decode cX6_reachNow 13 = .ok (.aload_n 0, 1) := by decide +kernel
theorem dX6_reachNow_14 : decode cX6_reachNow 14 = .ok (.invokevirtual 183, 3) := by decide +kernel
theorem dX6_reachNow_17 : decode cX6_reachNow 17 = .ok (.iload_n 3, 1) := by decide +kernel
theorem dX6_reachNow_18 : decode cX6_reachNow 18 = .ok (.ireturn, 1) := by decide +kernel
theorem dX6_reach_0 : decode cX6_reach 0 = .ok (.aload_n 0, 1) := by decide +kernel
theorem dX6_reach_1 : decode cX6_reach 1 = .ok (.iload_n 1, 1) := by decide +kernel
theorem dX6_reach_2 : decode cX6_reach 2 = .ok (.invokestatic 74, 3) := by decide +kernel
theorem dX6_reach_5 : decode cX6_reach 5 = .ok (.ifCond .eq 7, 3) := by decide +kernel
theorem dX6_reach_8 : decode cX6_reach 8 = .ok (.iconst 0, 1) := by decide +kernel
theorem dX6_reach_9 : decode cX6_reach 9 = .ok (.goto 4, 3) := by decide +kernel
theorem dX6_reach_12 : decode cX6_reach 12 = .ok (.iconst 1, 1) := by decide +kernel
theorem dX6_reach_13 : decode cX6_reach 13 = .ok (.putfield 29, 3) := by decide +kernel
theorem dX6_reach_16 : decode cX6_reach 16 = .ok (.aload_n 0, 1) := by decide +kernel
theorem dX6_reach_17 : decode cX6_reach 17 = .ok (.getfield 29, 3) := by decide +kernel
theorem dX6_reach_20 : decode cX6_reach 20 = .ok (.ifCond .le 7, 3) := by decide +kernel
theorem dX6_reach_23 : decode cX6_reach 23 = .ok (.iconst 0, 1) := by decide +kernel
theorem dX6_reach_24 : decode cX6_reach 24 = .ok (.goto 9, 3) := by decide +kernel
theorem dX6_reach_27 : decode cX6_reach 27 = .ok (.aload_n 0, 1) := by decide +kernel
theorem dX6_reach_28 : decode cX6_reach 28 = .ok (.iload_n 1, 1) := by decide +kernel
theorem dX6_reach_29 : decode cX6_reach 29 = .ok (.iload_n 2, 1) := by decide +kernel
theorem dX6_reach_30 : decode cX6_reach 30 = .ok (.invokevirtual 189, 3) := by decide +kernel
theorem dX6_reach_33 : decode cX6_reach 33 = .ok (.ireturn, 1) := by decide +kernel
theorem dX6_couldBeNow_0 : decode cX6_couldBeNow 0 = .ok (.iconst 0, 1) := by decide +kernel
theorem dX6_couldBeNow_1 : decode cX6_couldBeNow 1 = .ok (.istore_n 2, 1) := by decide +kernel
theorem dX6_couldBeNow_2 : decode cX6_couldBeNow 2 = .ok (.iconst 0, 1) := by decide +kernel
theorem dX6_couldBeNow_3 : decode cX6_couldBeNow 3 = .ok (.istore_n 3, 1) := by decide +kernel
theorem dX6_couldBeNow_4 : decode cX6_couldBeNow 4 = .ok (.iload_n 3, 1) := by decide +kernel
theorem dX6_couldBeNow_5 : decode cX6_couldBeNow 5 = .ok (.bipush 24, 2) := by decide +kernel
theorem dX6_couldBeNow_7 : decode cX6_couldBeNow 7 = .ok (.if_icmp .ge 38, 3) := by decide +kernel
theorem dX6_couldBeNow_10 : decode cX6_couldBeNow 10 = .ok (.iload_n 2, 1) := by decide +kernel
theorem dX6_couldBeNow_11 : decode cX6_couldBeNow 11 = .ok (.iload_n 3, 1) := by decide +kernel
theorem dX6_couldBeNow_12 : decode cX6_couldBeNow 12 = .ok (.aload_n 0, 1) := by decide +kernel
theorem dX6_couldBeNow_13 : decode cX6_couldBeNow 13 = .ok (.iload_n 1, 1) := by decide +kernel
theorem dX6_couldBeNow_14 : decode cX6_couldBeNow 14 = .ok (.iconst 1, 1) := by decide +kernel
theorem dX6_couldBeNow_15 : decode cX6_couldBeNow 15 = .ok (.invokevirtual 39, 3) := by decide +kernel
theorem dX6_couldBeNow_18 : decode cX6_couldBeNow 18 = .ok (.invokestatic 161, 3) := by decide +kernel
theorem dX6_couldBeNow_21 : decode cX6_couldBeNow 21 = .ok (.aload_n 0, 1) := by decide +kernel
theorem dX6_couldBeNow_22 : decode cX6_couldBeNow 22 = .ok (.iload_n 1, 1) := by decide +kernel
theorem dX6_couldBeNow_23 : decode cX6_couldBeNow 23 = .ok (.iconst 4, 1) := by decide +kernel
theorem dX6_couldBeNow_24 : decode cX6_couldBeNow 24 = .ok (.invokevirtual 39, 3) := by decide +kernel
theorem dX6_couldBeNow_27 : decode cX6_couldBeNow 27 = .ok (.if_icmp .gt 9, 3) := by decide +kernel
theorem dX6_couldBeNow_30 : decode cX6_couldBeNow 30 = .ok (.iconst 1, 1) := by decide +kernel
theorem dX6_couldBeNow_31 : decode cX6_couldBeNow 31 = .ok (.iload_n 3, 1) := by decide +kernel
theorem dX6_couldBeNow_32 : decode cX6_couldBeNow 32 = .ok (.ishl, 1) := by decide +kernel
theorem dX6_couldBeNow_33 : decode cX6_couldBeNow 33 = .ok (.goto 4, 3) := by decide +kernel
theorem dX6_couldBeNow_36 : decode cX6_couldBeNow 36 = .ok (.iconst 0, 1) := by decide +kernel
theorem dX6_couldBeNow_37 : decode cX6_couldBeNow 37 = .ok (.ior, 1) := by decide +kernel
theorem dX6_couldBeNow_38 : decode cX6_couldBeNow 38 = .ok (.istore_n 2, 1) := by decide +kernel
theorem dX6_couldBeNow_39 : decode cX6_couldBeNow 39 = .ok (.iinc 3 1, 3) := by decide +kernel
theorem dX6_couldBeNow_42 : decode cX6_couldBeNow 42 = .ok (.goto (-38), 3) := by decide +kernel
theorem dX6_couldBeNow_45 : decode cX6_couldBeNow 45 = .ok (.iload_n 2, 1) := by decide +kernel
theorem dX6_couldBeNow_46 : decode cX6_couldBeNow 46 = .ok (.ireturn, 1) := by decide +kernel
theorem dX6_couldBe_0 : decode cX6_couldBe 0 = .ok (.aload_n 0, 1) := by decide +kernel
theorem dX6_couldBe_1 : decode cX6_couldBe 1 = .ok (.iload_n 1, 1) := by decide +kernel
theorem dX6_couldBe_2 : decode cX6_couldBe 2 = .ok (.invokestatic 74, 3) := by decide +kernel
theorem dX6_couldBe_5 : decode cX6_couldBe 5 = .ok (.ifCond .eq 7, 3) := by decide +kernel
theorem dX6_couldBe_8 : decode cX6_couldBe 8 = .ok (.iconst 0, 1) := by decide +kernel
theorem dX6_couldBe_9 : decode cX6_couldBe 9 = .ok (.goto 4, 3) := by decide +kernel
theorem dX6_couldBe_12 : decode cX6_couldBe 12 = .ok (.iconst 1, 1) := by decide +kernel
theorem dX6_couldBe_13 : decode cX6_couldBe 13 = .ok (.putfield 29, 3) := by decide +kernel
theorem dX6_couldBe_16 : decode cX6_couldBe 16 = .ok (.aload_n 0, 1) := by decide +kernel
theorem dX6_couldBe_17 : decode cX6_couldBe 17 = .ok (.getfield 29, 3) := by decide +kernel
theorem dX6_couldBe_20 : decode cX6_couldBe 20 = .ok (.ifCond .le 7, 3) := by decide +kernel
theorem dX6_couldBe_23 : decode cX6_couldBe 23 = .ok (.iconst 0, 1) := by decide +kernel
theorem dX6_couldBe_24 : decode cX6_couldBe 24 = .ok (.goto 8, 3) := by decide +kernel
theorem dX6_couldBe_27 : decode cX6_couldBe 27 = .ok (.aload_n 0, 1) := by decide +kernel
theorem dX6_couldBe_28 : decode cX6_couldBe 28 = .ok (.iload_n 1, 1) := by decide +kernel
theorem dX6_couldBe_29 : decode cX6_couldBe 29 = .ok (.invokevirtual 192, 3) := by decide +kernel
theorem dX6_couldBe_32 : decode cX6_couldBe 32 = .ok (.ireturn, 1) := by decide +kernel
theorem dX6_lesserCost_0 : decode cX6_lesserCost 0 = .ok (.aload_n 0, 1) := by decide +kernel
theorem dX6_lesserCost_1 : decode cX6_lesserCost 1 = .ok (.iload_n 1, 1) := by decide +kernel
theorem dX6_lesserCost_2 : decode cX6_lesserCost 2 = .ok (.iload_n 2, 1) := by decide +kernel
theorem dX6_lesserCost_3 : decode cX6_lesserCost 3 = .ok (.iconst 1, 1) := by decide +kernel
theorem dX6_lesserCost_4 : decode cX6_lesserCost 4 = .ok (.invokevirtual 96, 3) := by decide +kernel
theorem dX6_lesserCost_7 : decode cX6_lesserCost 7 = .ok (.istore_n 3, 1) := by decide +kernel
theorem dX6_lesserCost_8 : decode cX6_lesserCost 8 = .ok (.aload_n 0, 1) := by decide +kernel
theorem dX6_lesserCost_9 : decode cX6_lesserCost 9 = .ok (.iload_n 1, 1) := by decide +kernel
theorem dX6_lesserCost_10 : decode cX6_lesserCost 10 = .ok (.iload_n 2, 1) := by decide +kernel
theorem dX6_lesserCost_11 : decode cX6_lesserCost 11 = .ok (.iconst 0, 1) := by decide +kernel
theorem dX6_lesserCost_12 : decode cX6_lesserCost 12 = .ok (.invokevirtual 96, 3) := by decide +kernel
theorem dX6_lesserCost_15 : decode cX6_lesserCost 15 = .ok (.istore 4, 2) := by decide +kernel
theorem dX6_lesserCost_17 : decode cX6_lesserCost 17 = .ok (.iload_n 3, 1) := by decide +kernel
theorem dX6_lesserCost_18 : decode cX6_lesserCost 18 = .ok (.iload 4, 2) := by decide +kernel
theorem dX6_lesserCost_20 : decode cX6_lesserCost 20 = .ok (.if_icmp .ge 7, 3) := by decide +kernel
theorem dX6_lesserCost_23 : decode cX6_lesserCost 23 = .ok (.iload_n 3, 1) := by decide +kernel
theorem dX6_lesserCost_24 : decode cX6_lesserCost 24 = .ok (.goto 5, 3) := by decide +kernel
theorem dX6_lesserCost_27 : decode cX6_lesserCost 27 = .ok (.iload 4, 2) := by decide +kernel
theorem dX6_lesserCost_29 : decode cX6_lesserCost 29 = .ok (.ireturn, 1) := by decide +kernel
theorem dX6_worstNow_0 : decode cX6_worstNow 0 = .ok (.iconst (-1), 1) := by decide +kernel
theorem dX6_worstNow_1 : decode cX6_worstNow 1 = .ok (.istore_n 3, 1) := by decide +kernel
theorem dX6_worstNow_2 : decode cX6_worstNow 2 = .ok (.aload_n 0, 1) := by decide +kernel
theorem dX6_worstNow_3 : decode cX6_worstNow 3 = .ok (.iload_n 1, 1) := by decide +kernel
theorem dX6_worstNow_4 : decode cX6_worstNow 4 = .ok (.iload_n 2, 1) := by decide +kernel
theorem dX6_worstNow_5 : decode cX6_worstNow 5 = .ok (.invokevirtual 195, 3) := by decide +kernel
theorem dX6_worstNow_8 : decode cX6_worstNow 8 = .ok (.istore 4, 2) := by decide +kernel
theorem dX6_worstNow_10 : decode cX6_worstNow 10 = .ok (.iconst 0, 1) := by decide +kernel
theorem dX6_worstNow_11 : decode cX6_worstNow 11 = .ok (.istore 5, 2) := by decide +kernel
theorem dX6_worstNow_13 : decode cX6_worstNow 13 = .ok (.iload 5, 2) := by decide +kernel
theorem dX6_worstNow_15 : decode cX6_worstNow 15 = .ok (.bipush 24, 2) := by decide +kernel
theorem dX6_worstNow_17 : decode cX6_worstNow 17 = .ok (.if_icmp .ge 53, 3) := by decide +kernel
theorem dX6_worstNow_20 : decode cX6_worstNow 20 = .ok (.aload_n 0, 1) := by decide +kernel
theorem dX6_worstNow_21 : decode cX6_worstNow 21 = .ok (.iload 5, 2) := by decide +kernel
theorem dX6_worstNow_23 : decode cX6_worstNow 23 = .ok (.putfield 19, 3) := by decide +kernel
theorem dX6_worstNow_26 : decode cX6_worstNow 26 = .ok (.aload_n 0, 1) := by decide +kernel
theorem dX6_worstNow_27 : decode cX6_worstNow 27 = .ok (.iload_n 1, 1) := by decide +kernel
theorem dX6_worstNow_28 : decode cX6_worstNow 28 = .ok (.iload_n 2, 1) := by decide +kernel
theorem dX6_worstNow_29 : decode cX6_worstNow 29 = .ok (.invokevirtual 195, 3) := by decide +kernel
theorem dX6_worstNow_32 : decode cX6_worstNow 32 = .ok (.istore 6, 2) := by decide +kernel
theorem dX6_worstNow_34 : decode cX6_worstNow 34 = .ok (.iload 6, 2) := by decide +kernel
theorem dX6_worstNow_36 : decode cX6_worstNow 36 = .ok (.iload 4, 2) := by decide +kernel
theorem dX6_worstNow_38 : decode cX6_worstNow 38 = .ok (.if_icmp .ge 8, 3) := by decide +kernel
theorem dX6_worstNow_41 : decode cX6_worstNow 41 = .ok (.iload 5, 2) := by decide +kernel
theorem dX6_worstNow_43 : decode cX6_worstNow 43 = .ok (.goto 4, 3) := by decide +kernel
theorem dX6_worstNow_46 : decode cX6_worstNow 46 = .ok (.iload_n 3, 1) := by decide +kernel
theorem dX6_worstNow_47 : decode cX6_worstNow 47 = .ok (.istore_n 3, 1) := by decide +kernel
theorem dX6_worstNow_48 : decode cX6_worstNow 48 = .ok (.iload 6, 2) := by decide +kernel
theorem dX6_worstNow_50 : decode cX6_worstNow 50 = .ok (.iload 4, 2) := by decide +kernel
theorem dX6_worstNow_52 : decode cX6_worstNow 52 = .ok (.if_icmp .ge 8, 3) := by decide +kernel
theorem dX6_worstNow_55 : decode cX6_worstNow 55 = .ok (.iload 6, 2) := by decide +kernel
theorem dX6_worstNow_57 : decode cX6_worstNow 57 = .ok (.goto 5, 3) := by decide +kernel
theorem dX6_worstNow_60 : decode cX6_worstNow 60 = .ok (.iload 4, 2) := by decide +kernel
theorem dX6_worstNow_62 : decode cX6_worstNow 62 = .ok (.istore 4, 2) := by decide +kernel
theorem dX6_worstNow_64 : decode cX6_worstNow 64 = .ok (.iinc 5 1, 3) := by decide +kernel
theorem dX6_worstNow_67 : decode cX6_worstNow 67 = .ok (.goto (-54), 3) := by decide +kernel
theorem dX6_worstNow_70 : decode cX6_worstNow 70 = .ok (.aload_n 0, 1) := by decide +kernel
theorem dX6_worstNow_71 : decode cX6_worstNow 71 = .ok (.iconst (-1), 1) := by decide +kernel
theorem dX6_worstNow_72 : decode cX6_worstNow 72 = .ok (.putfield 19, 3) := by decide +kernel
theorem dX6_worstNow_75 : decode cX6_worstNow 75 = .ok (.iload_n 3, 1) := by decide +kernel
theorem dX6_worstNow_76 : decode cX6_worstNow 76 = .ok (.ireturn, 1) := by decide +kernel
theorem dX6_worst_0 : decode cX6_worst 0 = .ok (.aload_n 0, 1) := by decide +kernel
theorem dX6_worst_1 : decode cX6_worst 1 = .ok (.iload_n 1, 1) := by decide +kernel
theorem dX6_worst_2 : decode cX6_worst 2 = .ok (.invokestatic 74, 3) := by decide +kernel
theorem dX6_worst_5 : decode cX6_worst 5 = .ok (.ifCond .ne 7, 3) := by decide +kernel
theorem dX6_worst_8 : decode cX6_worst 8 = .ok (.iconst 1, 1) := by decide +kernel
theorem dX6_worst_9 : decode cX6_worst 9 = .ok (.goto 15, 3) := by decide +kernel
theorem dX6_worst_12 : decode cX6_worst 12 = .ok (.iload_n 2, 1) := by decide +kernel
theorem dX6_worst_13 : decode cX6_worst 13 = .ok (.invokestatic 103, 3) := by decide +kernel
theorem dX6_worst_16 : decode cX6_worst 16 = .ok (.ifCond .eq 7, 3) := by decide +kernel
theorem dX6_worst_19 : decode cX6_worst 19 = .ok (.iconst 0, 1) := by decide +kernel
theorem dX6_worst_20 : decode cX6_worst 20 = .ok (.goto 4, 3) := by decide +kernel
theorem dX6_worst_23 : decode cX6_worst 23 = .ok (.iconst 2, 1) := by decide +kernel
theorem dX6_worst_24 : decode cX6_worst 24 = .ok (.putfield 29, 3) := by decide +kernel
theorem dX6_worst_27 : decode cX6_worst 27 = .ok (.aload_n 0, 1) := by decide +kernel
theorem dX6_worst_28 : decode cX6_worst 28 = .ok (.getfield 29, 3) := by decide +kernel
theorem dX6_worst_31 : decode cX6_worst 31 = .ok (.ifCond .le 7, 3) := by decide +kernel
theorem dX6_worst_34 : decode cX6_worst 34 = .ok (.iconst 0, 1) := by decide +kernel
theorem dX6_worst_35 : decode cX6_worst 35 = .ok (.goto 9, 3) := by decide +kernel
theorem dX6_worst_38 : decode cX6_worst 38 = .ok (.aload_n 0, 1) := by decide +kernel
theorem dX6_worst_39 : decode cX6_worst 39 = .ok (.iload_n 1, 1) := by decide +kernel
theorem dX6_worst_40 : decode cX6_worst 40 = .ok (.iload_n 2, 1) := by decide +kernel
theorem dX6_worst_41 : decode cX6_worst 41 = .ok (.invokevirtual 198, 3) := by decide +kernel
theorem dX6_worst_44 : decode cX6_worst 44 = .ok (.ireturn, 1) := by decide +kernel
theorem dX6_mean_0 : decode cX6_mean 0 = .ok (.aload_n 0, 1) := by decide +kernel
theorem dX6_mean_1 : decode cX6_mean 1 = .ok (.bipush 6, 2) := by decide +kernel
theorem dX6_mean_3 : decode cX6_mean 3 = .ok (.invokevirtual 167, 3) := by decide +kernel
theorem dX6_mean_6 : decode cX6_mean 6 = .ok (.istore_n 1, 1) := by decide +kernel
theorem dX6_mean_7 : decode cX6_mean 7 = .ok (.iload_n 1, 1) := by decide +kernel
theorem dX6_mean_8 : decode cX6_mean 8 = .ok (.ifCond .ne 7, 3) := by decide +kernel
theorem dX6_mean_11 : decode cX6_mean 11 = .ok (.dconst 0, 1) := by decide +kernel
theorem dX6_mean_12 : decode cX6_mean 12 = .ok (.goto 13, 3) := by decide +kernel
theorem dX6_mean_15 : decode cX6_mean 15 = .ok (.aload_n 0, 1) := by decide +kernel
theorem dX6_mean_16 : decode cX6_mean 16 = .ok (.bipush 8, 2) := by decide +kernel
theorem dX6_mean_18 : decode cX6_mean 18 = .ok (.invokevirtual 167, 3) := by decide +kernel
theorem dX6_mean_21 : decode cX6_mean 21 = .ok (.i2d, 1) := by decide +kernel
theorem dX6_mean_22 : decode cX6_mean 22 = .ok (.iload_n 1, 1) := by decide +kernel
theorem dX6_mean_23 : decode cX6_mean 23 = .ok (.i2d, 1) := by decide +kernel
theorem dX6_mean_24 : decode cX6_mean 24 = .ok (.ddiv, 1) := by decide +kernel
theorem dX6_mean_25 : decode cX6_mean 25 = .ok (.dreturn, 1) := by decide +kernel
theorem dX6_meanToll_0 : decode cX6_meanToll 0 = .ok (.aload_n 0, 1) := by decide +kernel
theorem dX6_meanToll_1 : decode cX6_meanToll 1 = .ok (.iconst 0, 1) := by decide +kernel
theorem dX6_meanToll_2 : decode cX6_meanToll 2 = .ok (.putfield 29, 3) := by decide +kernel
theorem dX6_meanToll_5 : decode cX6_meanToll 5 = .ok (.aload_n 0, 1) := by decide +kernel
theorem dX6_meanToll_6 : decode cX6_meanToll 6 = .ok (.invokevirtual 201, 3) := by decide +kernel
theorem dX6_meanToll_9 : decode cX6_meanToll 9 = .ok (.dreturn, 1) := by decide +kernel
theorem dX6_mix_0 : decode cX6_mix 0 = .ok (.aload_n 0, 1) := by decide +kernel
theorem dX6_mix_1 : decode cX6_mix 1 = .ok (.ldc2_w 205, 3) := by decide +kernel
theorem dX6_mix_4 : decode cX6_mix 4 = .ok (.aload_n 0, 1) := by decide +kernel
theorem dX6_mix_5 : decode cX6_mix 5 = .ok (.getfield 207, 3) := by decide +kernel
theorem dX6_mix_8 : decode cX6_mix 8 = .ok (.lmul, 1) := by decide +kernel
theorem dX6_mix_9 : decode cX6_mix 9 = .ok (.lload_n 1, 1) := by decide +kernel
theorem dX6_mix_10 : decode cX6_mix 10 = .ok (.ladd, 1) := by decide +kernel
theorem dX6_mix_11 : decode cX6_mix 11 = .ok (.putfield 207, 3) := by decide +kernel
theorem dX6_mix_14 : decode cX6_mix 14 = .ok (.return_, 1) := by decide +kernel
theorem dX6_mixAxis_0 : decode cX6_mixAxis 0 = .ok (.iconst 0, 1) := by decide +kernel
theorem dX6_mixAxis_1 : decode cX6_mixAxis 1 = .ok (.istore_n 2, 1) := by decide +kernel
theorem dX6_mixAxis_2 : decode cX6_mixAxis 2 = .ok (.iload_n 2, 1) := by decide +kernel
theorem dX6_mixAxis_3 : decode cX6_mixAxis 3 = .ok (.bipush 12, 2) := by decide +kernel
theorem dX6_mixAxis_5 : decode cX6_mixAxis 5 = .ok (.if_icmp .ge 20, 3) := by decide +kernel
theorem dX6_mixAxis_8 : decode cX6_mixAxis 8 = .ok (.aload_n 0, 1) := by decide +kernel
theorem dX6_mixAxis_9 : decode cX6_mixAxis 9 = .ok (.aload_n 0, 1) := by decide +kernel
theorem dX6_mixAxis_10 : decode cX6_mixAxis 10 = .ok (.iload_n 1, 1) := by decide +kernel
theorem dX6_mixAxis_11 : decode cX6_mixAxis 11 = .ok (.iload_n 2, 1) := by decide +kernel
theorem dX6_mixAxis_12 : decode cX6_mixAxis 12 = .ok (.invokevirtual 164, 3) := by decide +kernel
theorem dX6_mixAxis_15 : decode cX6_mixAxis 15 = .ok (.i2l, 1) := by decide +kernel
theorem dX6_mixAxis_16 : decode cX6_mixAxis 16 = .ok (.invokevirtual 211, 3) := by decide +kernel
theorem dX6_mixAxis_19 : decode cX6_mixAxis 19 = .ok (.iinc 2 1, 3) := by decide +kernel
theorem dX6_mixAxis_22 : decode cX6_mixAxis 22 = .ok (.goto (-20), 3) := by decide +kernel
theorem dX6_mixAxis_25 : decode cX6_mixAxis 25 = .ok (.iconst 0, 1) := by decide +kernel
theorem dX6_mixAxis_26 : decode cX6_mixAxis 26 = .ok (.istore_n 2, 1) := by decide +kernel
theorem dX6_mixAxis_27 : decode cX6_mixAxis 27 = .ok (.iload_n 2, 1) := by decide +kernel
theorem dX6_mixAxis_28 : decode cX6_mixAxis 28 = .ok (.bipush 24, 2) := by decide +kernel
theorem dX6_mixAxis_30 : decode cX6_mixAxis 30 = .ok (.if_icmp .ge 23, 3) := by decide +kernel
theorem dX6_mixAxis_33 : decode cX6_mixAxis 33 = .ok (.aload_n 0, 1) := by decide +kernel
theorem dX6_mixAxis_34 : decode cX6_mixAxis 34 = .ok (.aload_n 0, 1) := by decide +kernel
theorem dX6_mixAxis_35 : decode cX6_mixAxis 35 = .ok (.iload_n 1, 1) := by decide +kernel
theorem dX6_mixAxis_36 : decode cX6_mixAxis 36 = .ok (.bipush 11, 2) := by decide +kernel
theorem dX6_mixAxis_38 : decode cX6_mixAxis 38 = .ok (.iload_n 2, 1) := by decide +kernel
theorem dX6_mixAxis_39 : decode cX6_mixAxis 39 = .ok (.iadd, 1) := by decide +kernel
theorem dX6_mixAxis_40 : decode cX6_mixAxis 40 = .ok (.invokevirtual 39, 3) := by decide +kernel
theorem dX6_mixAxis_43 : decode cX6_mixAxis 43 = .ok (.i2l, 1) := by decide +kernel
theorem dX6_mixAxis_44 : decode cX6_mixAxis 44 = .ok (.invokevirtual 211, 3) := by decide +kernel
theorem dX6_mixAxis_47 : decode cX6_mixAxis 47 = .ok (.iinc 2 1, 3) := by decide +kernel
theorem dX6_mixAxis_50 : decode cX6_mixAxis 50 = .ok (.goto (-23), 3) := by decide +kernel
theorem dX6_mixAxis_53 : decode cX6_mixAxis 53 = .ok (.aload_n 0, 1) := by decide +kernel
theorem dX6_mixAxis_54 : decode cX6_mixAxis 54 = .ok (.aload_n 0, 1) := by decide +kernel
theorem dX6_mixAxis_55 : decode cX6_mixAxis 55 = .ok (.iload_n 1, 1) := by decide +kernel
theorem dX6_mixAxis_56 : decode cX6_mixAxis 56 = .ok (.iconst 1, 1) := by decide +kernel
theorem dX6_mixAxis_57 : decode cX6_mixAxis 57 = .ok (.invokevirtual 54, 3) := by decide +kernel
theorem dX6_mixAxis_60 : decode cX6_mixAxis 60 = .ok (.i2l, 1) := by decide +kernel
theorem dX6_mixAxis_61 : decode cX6_mixAxis 61 = .ok (.invokevirtual 211, 3) := by decide +kernel
theorem dX6_mixAxis_64 : decode cX6_mixAxis 64 = .ok (.aload_n 0, 1) := by decide +kernel
theorem dX6_mixAxis_65 : decode cX6_mixAxis 65 = .ok (.aload_n 0, 1) := by decide +kernel
theorem dX6_mixAxis_66 : decode cX6_mixAxis 66 = .ok (.iload_n 1, 1) := by decide +kernel
theorem dX6_mixAxis_67 : decode cX6_mixAxis 67 = .ok (.iconst 0, 1) := by decide +kernel
theorem dX6_mixAxis_68 : decode cX6_mixAxis 68 = .ok (.invokevirtual 54, 3) := by decide +kernel
theorem dX6_mixAxis_71 : decode cX6_mixAxis 71 = .ok (.i2l, 1) := by decide +kernel
theorem dX6_mixAxis_72 : decode cX6_mixAxis 72 = .ok (.invokevirtual 211, 3) := by decide +kernel
theorem dX6_mixAxis_75 : decode cX6_mixAxis 75 = .ok (.aload_n 0, 1) := by decide +kernel
theorem dX6_mixAxis_76 : decode cX6_mixAxis 76 = .ok (.aload_n 0, 1) := by decide +kernel
theorem dX6_mixAxis_77 : decode cX6_mixAxis 77 = .ok (.iload_n 1, 1) := by decide +kernel
theorem dX6_mixAxis_78 : decode cX6_mixAxis 78 = .ok (.iconst 1, 1) := by decide +kernel
theorem dX6_mixAxis_79 : decode cX6_mixAxis 79 = .ok (.invokevirtual 57, 3) := by decide +kernel
theorem dX6_mixAxis_82 : decode cX6_mixAxis 82 = .ok (.i2l, 1) := by decide +kernel
theorem dX6_mixAxis_83 : decode cX6_mixAxis 83 = .ok (.invokevirtual 211, 3) := by decide +kernel
theorem dX6_mixAxis_86 : decode cX6_mixAxis 86 = .ok (.aload_n 0, 1) := by decide +kernel
theorem dX6_mixAxis_87 : decode cX6_mixAxis 87 = .ok (.aload_n 0, 1) := by decide +kernel
theorem dX6_mixAxis_88 : decode cX6_mixAxis 88 = .ok (.iload_n 1, 1) := by decide +kernel
theorem dX6_mixAxis_89 : decode cX6_mixAxis 89 = .ok (.iconst 0, 1) := by decide +kernel
theorem dX6_mixAxis_90 : decode cX6_mixAxis 90 = .ok (.invokevirtual 57, 3) := by decide +kernel
theorem dX6_mixAxis_93 : decode cX6_mixAxis 93 = .ok (.i2l, 1) := by decide +kernel
theorem dX6_mixAxis_94 : decode cX6_mixAxis 94 = .ok (.invokevirtual 211, 3) := by decide +kernel
theorem dX6_mixAxis_97 : decode cX6_mixAxis 97 = .ok (.aload_n 0, 1) := by decide +kernel
theorem dX6_mixAxis_98 : decode cX6_mixAxis 98 = .ok (.aload_n 0, 1) := by decide +kernel
theorem dX6_mixAxis_99 : decode cX6_mixAxis 99 = .ok (.iload_n 1, 1) := by decide +kernel
theorem dX6_mixAxis_100 : decode cX6_mixAxis 100 = .ok (.bipush 12, 2) := by decide +kernel
theorem dX6_mixAxis_102 : decode cX6_mixAxis 102 = .ok (.iconst 1, 1) := by decide +kernel
theorem dX6_mixAxis_103 : decode cX6_mixAxis 103 = .ok (.invokevirtual 96, 3) := by decide +kernel
theorem dX6_mixAxis_106 : decode cX6_mixAxis 106 = .ok (.i2l, 1) := by decide +kernel
theorem dX6_mixAxis_107 : decode cX6_mixAxis 107 = .ok (.invokevirtual 211, 3) := by decide +kernel
theorem dX6_mixAxis_110 : decode cX6_mixAxis 110 = .ok (.aload_n 0, 1) := by decide +kernel
theorem dX6_mixAxis_111 : decode cX6_mixAxis 111 = .ok (.aload_n 0, 1) := by decide +kernel
theorem dX6_mixAxis_112 : decode cX6_mixAxis 112 = .ok (.iload_n 1, 1) := by decide +kernel
theorem dX6_mixAxis_113 : decode cX6_mixAxis 113 = .ok (.bipush 12, 2) := by decide +kernel
theorem dX6_mixAxis_115 : decode cX6_mixAxis 115 = .ok (.iconst 0, 1) := by decide +kernel
theorem dX6_mixAxis_116 : decode cX6_mixAxis 116 = .ok (.invokevirtual 96, 3) := by decide +kernel
theorem dX6_mixAxis_119 : decode cX6_mixAxis 119 = .ok (.i2l, 1) := by decide +kernel
theorem dX6_mixAxis_120 : decode cX6_mixAxis 120 = .ok (.invokevirtual 211, 3) := by decide +kernel
theorem dX6_mixAxis_123 : decode cX6_mixAxis 123 = .ok (.iconst 0, 1) := by decide +kernel
theorem dX6_mixAxis_124 : decode cX6_mixAxis 124 = .ok (.istore_n 2, 1) := by decide +kernel
theorem dX6_mixAxis_125 : decode cX6_mixAxis 125 = .ok (.iload_n 2, 1) := by decide +kernel
theorem dX6_mixAxis_126 : decode cX6_mixAxis 126 = .ok (.iconst 3, 1) := by decide +kernel
theorem dX6_mixAxis_127 : decode cX6_mixAxis 127 = .ok (.if_icmp .ge 20, 3) := by decide +kernel
theorem dX6_mixAxis_130 : decode cX6_mixAxis 130 = .ok (.aload_n 0, 1) := by decide +kernel
theorem dX6_mixAxis_131 : decode cX6_mixAxis 131 = .ok (.aload_n 0, 1) := by decide +kernel
theorem dX6_mixAxis_132 : decode cX6_mixAxis 132 = .ok (.iload_n 1, 1) := by decide +kernel
theorem dX6_mixAxis_133 : decode cX6_mixAxis 133 = .ok (.iload_n 2, 1) := by decide +kernel
theorem dX6_mixAxis_134 : decode cX6_mixAxis 134 = .ok (.invokevirtual 186, 3) := by decide +kernel
theorem dX6_mixAxis_137 : decode cX6_mixAxis 137 = .ok (.i2l, 1) := by decide +kernel
theorem dX6_mixAxis_138 : decode cX6_mixAxis 138 = .ok (.invokevirtual 211, 3) := by decide +kernel
theorem dX6_mixAxis_141 : decode cX6_mixAxis 141 = .ok (.iinc 2 1, 3) := by decide +kernel
theorem dX6_mixAxis_144 : decode cX6_mixAxis 144 = .ok (.goto (-19), 3) := by decide +kernel
theorem dX6_mixAxis_147 : decode cX6_mixAxis 147 = .ok (.aload_n 0, 1) := by decide +kernel
theorem dX6_mixAxis_148 : decode cX6_mixAxis 148 = .ok (.aload_n 0, 1) := by decide +kernel
theorem dX6_mixAxis_149 : decode cX6_mixAxis 149 = .ok (.iload_n 1, 1) := by decide +kernel
theorem dX6_mixAxis_150 : decode cX6_mixAxis 150 = .ok (.iconst 1, 1) := by decide +kernel
theorem dX6_mixAxis_151 : decode cX6_mixAxis 151 = .ok (.invokevirtual 189, 3) := by decide +kernel
theorem dX6_mixAxis_154 : decode cX6_mixAxis 154 = .ok (.i2l, 1) := by decide +kernel
theorem dX6_mixAxis_155 : decode cX6_mixAxis 155 = .ok (.invokevirtual 211, 3) := by decide +kernel
theorem dX6_mixAxis_158 : decode cX6_mixAxis 158 = .ok (.aload_n 0, 1) := by decide +kernel
theorem dX6_mixAxis_159 : decode cX6_mixAxis 159 = .ok (.aload_n 0, 1) := by decide +kernel
theorem dX6_mixAxis_160 : decode cX6_mixAxis 160 = .ok (.iload_n 1, 1) := by decide +kernel
theorem dX6_mixAxis_161 : decode cX6_mixAxis 161 = .ok (.iconst 0, 1) := by decide +kernel
theorem dX6_mixAxis_162 : decode cX6_mixAxis 162 = .ok (.invokevirtual 189, 3) := by decide +kernel
theorem dX6_mixAxis_165 : decode cX6_mixAxis 165 = .ok (.i2l, 1) := by decide +kernel
theorem dX6_mixAxis_166 : decode cX6_mixAxis 166 = .ok (.invokevirtual 211, 3) := by decide +kernel
theorem dX6_mixAxis_169 : decode cX6_mixAxis 169 = .ok (.aload_n 0, 1) := by decide +kernel
theorem dX6_mixAxis_170 : decode cX6_mixAxis 170 = .ok (.aload_n 0, 1) := by decide +kernel
theorem dX6_mixAxis_171 : decode cX6_mixAxis 171 = .ok (.iload_n 1, 1) := by decide +kernel
theorem dX6_mixAxis_172 : decode cX6_mixAxis 172 = .ok (.invokevirtual 192, 3) := by decide +kernel
theorem dX6_mixAxis_175 : decode cX6_mixAxis 175 = .ok (.i2l, 1) := by decide +kernel
theorem dX6_mixAxis_176 : decode cX6_mixAxis 176 = .ok (.invokevirtual 211, 3) := by decide +kernel
theorem dX6_mixAxis_179 : decode cX6_mixAxis 179 = .ok (.aload_n 0, 1) := by decide +kernel
theorem dX6_mixAxis_180 : decode cX6_mixAxis 180 = .ok (.aload_n 0, 1) := by decide +kernel
theorem dX6_mixAxis_181 : decode cX6_mixAxis 181 = .ok (.iload_n 1, 1) := by decide +kernel
theorem dX6_mixAxis_182 : decode cX6_mixAxis 182 = .ok (.bipush 12, 2) := by decide +kernel
theorem dX6_mixAxis_184 : decode cX6_mixAxis 184 = .ok (.invokevirtual 198, 3) := by decide +kernel
theorem dX6_mixAxis_187 : decode cX6_mixAxis 187 = .ok (.i2l, 1) := by decide +kernel
theorem dX6_mixAxis_188 : decode cX6_mixAxis 188 = .ok (.invokevirtual 211, 3) := by decide +kernel
theorem dX6_mixAxis_191 : decode cX6_mixAxis 191 = .ok (.return_, 1) := by decide +kernel
theorem dX6_digest_0 : decode cX6_digest 0 = .ok (.aload_n 0, 1) := by decide +kernel
theorem dX6_digest_1 : decode cX6_digest 1 = .ok (.iconst 0, 1) := by decide +kernel
theorem dX6_digest_2 : decode cX6_digest 2 = .ok (.putfield 29, 3) := by decide +kernel
theorem dX6_digest_5 : decode cX6_digest 5 = .ok (.aload_n 0, 1) := by decide +kernel
theorem dX6_digest_6 : decode cX6_digest 6 = .ok (.ldc2_w 215, 3) := by decide +kernel
theorem dX6_digest_9 : decode cX6_digest 9 = .ok (.putfield 207, 3) := by decide +kernel
theorem dX6_digest_12 : decode cX6_digest 12 = .ok (.iconst 0, 1) := by decide +kernel
theorem dX6_digest_13 : decode cX6_digest 13 = .ok (.istore_n 1, 1) := by decide +kernel
theorem dX6_digest_14 : decode cX6_digest 14 = .ok (.iload_n 1, 1) := by decide +kernel
theorem dX6_digest_15 : decode cX6_digest 15 = .ok (.bipush 9, 2) := by decide +kernel
theorem dX6_digest_17 : decode cX6_digest 17 = .ok (.if_icmp .ge 19, 3) := by decide +kernel
theorem dX6_digest_20 : decode cX6_digest 20 = .ok (.aload_n 0, 1) := by decide +kernel
theorem dX6_digest_21 : decode cX6_digest 21 = .ok (.aload_n 0, 1) := by decide +kernel
theorem dX6_digest_22 : decode cX6_digest 22 = .ok (.iload_n 1, 1) := by decide +kernel
theorem dX6_digest_23 : decode cX6_digest 23 = .ok (.invokevirtual 177, 3) := by decide +kernel
theorem dX6_digest_26 : decode cX6_digest 26 = .ok (.i2l, 1) := by decide +kernel
theorem dX6_digest_27 : decode cX6_digest 27 = .ok (.invokevirtual 211, 3) := by decide +kernel
theorem dX6_digest_30 : decode cX6_digest 30 = .ok (.iinc 1 1, 3) := by decide +kernel
theorem dX6_digest_33 : decode cX6_digest 33 = .ok (.goto (-19), 3) := by decide +kernel
theorem dX6_digest_36 : decode cX6_digest 36 = .ok (.iconst 0, 1) := by decide +kernel
theorem dX6_digest_37 : decode cX6_digest 37 = .ok (.istore_n 1, 1) := by decide +kernel
theorem dX6_digest_38 : decode cX6_digest 38 = .ok (.iload_n 1, 1) := by decide +kernel
theorem dX6_digest_39 : decode cX6_digest 39 = .ok (.bipush 6, 2) := by decide +kernel
theorem dX6_digest_41 : decode cX6_digest 41 = .ok (.if_icmp .ge 22, 3) := by decide +kernel
theorem dX6_digest_44 : decode cX6_digest 44 = .ok (.aload_n 0, 1) := by decide +kernel
theorem dX6_digest_45 : decode cX6_digest 45 = .ok (.aload_n 0, 1) := by decide +kernel
theorem dX6_digest_46 : decode cX6_digest 46 = .ok (.getfield 7, 3) := by decide +kernel
theorem dX6_digest_49 : decode cX6_digest 49 = .ok (.iconst 0, 1) := by decide +kernel
theorem dX6_digest_50 : decode cX6_digest 50 = .ok (.iload_n 1, 1) := by decide +kernel
theorem dX6_digest_51 : decode cX6_digest 51 = .ok (.iadd, 1) := by decide +kernel
theorem dX6_digest_52 : decode cX6_digest 52 = .ok (.iaload, 1) := by decide +kernel
theorem dX6_digest_53 : decode cX6_digest 53 = .ok (.i2l, 1) := by decide +kernel
theorem dX6_digest_54 : decode cX6_digest 54 = .ok (.invokevirtual 211, 3) := by decide +kernel
theorem dX6_digest_57 : decode cX6_digest 57 = .ok (.iinc 1 1, 3) := by decide +kernel
theorem dX6_digest_60 : decode cX6_digest 60 = .ok (.goto (-22), 3) := by decide +kernel
theorem dX6_digest_63 : decode cX6_digest 63 = .ok (.iconst 0, 1) := by decide +kernel
theorem dX6_digest_64 : decode cX6_digest 64 = .ok (.istore_n 1, 1) := by decide +kernel
theorem dX6_digest_65 : decode cX6_digest 65 = .ok (.iload_n 1, 1) := by decide +kernel
theorem dX6_digest_66 : decode cX6_digest 66 = .ok (.iconst 4, 1) := by decide +kernel
theorem dX6_digest_67 : decode cX6_digest 67 = .ok (.if_icmp .ge 14, 3) := by decide +kernel
theorem dX6_digest_70 : decode cX6_digest 70 = .ok (.aload_n 0, 1) := by decide +kernel
theorem dX6_digest_71 : decode cX6_digest 71 = .ok (.iload_n 1, 1) := by decide +kernel
theorem dX6_digest_72 : decode cX6_digest 72 = .ok (.invokevirtual 217, 3) := by decide +kernel
theorem dX6_digest_75 : decode cX6_digest 75 = .ok (.iinc 1 1, 3) := by decide +kernel
theorem dX6_digest_78 : decode cX6_digest 78 = .ok (.goto (-13), 3) := by decide +kernel
theorem dX6_digest_81 : decode cX6_digest 81 = .ok (.aload_n 0, 1) := by decide +kernel
theorem dX6_digest_82 : decode cX6_digest 82 = .ok (.aload_n 0, 1) := by decide +kernel
theorem dX6_digest_83 : decode cX6_digest 83 = .ok (.invokevirtual 201, 3) := by decide +kernel
theorem dX6_digest_86 : decode cX6_digest 86 = .ok (.invokestatic 220, 3) := by decide +kernel
theorem dX6_digest_89 : decode cX6_digest 89 = .ok (.invokevirtual 211, 3) := by decide +kernel
theorem dX6_digest_92 : decode cX6_digest 92 = .ok (.aload_n 0, 1) := by decide +kernel
theorem dX6_digest_93 : decode cX6_digest 93 = .ok (.aload_n 0, 1) := by decide +kernel
theorem dX6_digest_94 : decode cX6_digest 94 = .ok (.getfield 127, 3) := by decide +kernel
theorem dX6_digest_97 : decode cX6_digest 97 = .ok (.i2l, 1) := by decide +kernel
theorem dX6_digest_98 : decode cX6_digest 98 = .ok (.invokevirtual 211, 3) := by decide +kernel
theorem dX6_digest_101 : decode cX6_digest 101 = .ok (.iconst 0, 1) := by decide +kernel
theorem dX6_digest_102 : decode cX6_digest 102 = .ok (.istore_n 1, 1) := by decide +kernel
theorem dX6_digest_103 : decode cX6_digest 103 = .ok (.iload_n 1, 1) := by decide +kernel
theorem dX6_digest_104 : decode cX6_digest 104 = .ok (.aload_n 0, 1) := by decide +kernel
theorem dX6_digest_105 : decode cX6_digest 105 = .ok (.getfield 127, 3) := by decide +kernel
theorem dX6_digest_108 : decode cX6_digest 108 = .ok (.if_icmp .ge 20, 3) := by decide +kernel
theorem dX6_digest_111 : decode cX6_digest 111 = .ok (.aload_n 0, 1) := by decide +kernel
theorem dX6_digest_112 : decode cX6_digest 112 = .ok (.aload_n 0, 1) := by decide +kernel
theorem dX6_digest_113 : decode cX6_digest 113 = .ok (.getfield 16, 3) := by decide +kernel
theorem dX6_digest_116 : decode cX6_digest 116 = .ok (.iload_n 1, 1) := by decide +kernel
theorem dX6_digest_117 : decode cX6_digest 117 = .ok (.iaload, 1) := by decide +kernel
theorem dX6_digest_118 : decode cX6_digest 118 = .ok (.i2l, 1) := by decide +kernel
theorem dX6_digest_119 : decode cX6_digest 119 = .ok (.invokevirtual 211, 3) := by decide +kernel
theorem dX6_digest_122 : decode cX6_digest 122 = .ok (.iinc 1 1, 3) := by decide +kernel
theorem dX6_digest_125 : decode cX6_digest 125 = .ok (.goto (-22), 3) := by decide +kernel
theorem dX6_digest_128 : decode cX6_digest 128 = .ok (.aload_n 0, 1) := by decide +kernel
theorem dX6_digest_129 : decode cX6_digest 129 = .ok (.getfield 207, 3) := by decide +kernel
theorem dX6_digest_132 : decode cX6_digest 132 = .ok (.lreturn, 1) := by decide +kernel
theorem dJxe99ae_isNaN_b9ae7_0 : decode cJxe99ae_isNaN_b9ae7 0 = .ok (.dload_n 0, 1) := by decide +kernel
theorem dJxe99ae_isNaN_b9ae7_1 : decode cJxe99ae_isNaN_b9ae7 1 = .ok (.dload_n 0, 1) := by decide +kernel
theorem dJxe99ae_isNaN_b9ae7_2 : decode cJxe99ae_isNaN_b9ae7 2 = .ok (.dcmp .l, 1) := by decide +kernel
theorem dJxe99ae_isNaN_b9ae7_3 : decode cJxe99ae_isNaN_b9ae7 3 = .ok (.ifCond .eq 7, 3) := by decide +kernel
theorem dJxe99ae_isNaN_b9ae7_6 : decode cJxe99ae_isNaN_b9ae7 6 = .ok (.iconst 1, 1) := by decide +kernel
theorem dJxe99ae_isNaN_b9ae7_7 : decode cJxe99ae_isNaN_b9ae7 7 = .ok (.goto 4, 3) := by decide +kernel
theorem dJxe99ae_isNaN_b9ae7_10 : decode cJxe99ae_isNaN_b9ae7 10 = .ok (.iconst 0, 1) := by decide +kernel
theorem dJxe99ae_isNaN_b9ae7_11 : decode cJxe99ae_isNaN_b9ae7 11 = .ok (.ireturn, 1) := by decide +kernel
theorem dJxe99ae_doubleToLongBits_ccdee_0 : decode cJxe99ae_doubleToLongBits_ccdee 0 = .ok (.dload_n 0, 1) := by decide +kernel
theorem dJxe99ae_doubleToLongBits_ccdee_1 : decode cJxe99ae_doubleToLongBits_ccdee 1 = .ok (.invokestatic 122, 3) := by decide +kernel
theorem dJxe99ae_doubleToLongBits_ccdee_4 : decode cJxe99ae_doubleToLongBits_ccdee 4 = .ok (.ifCond .ne 8, 3) := by decide +kernel
theorem dJxe99ae_doubleToLongBits_ccdee_7 : decode cJxe99ae_doubleToLongBits_ccdee 7 = .ok (.dload_n 0, 1) := by decide +kernel
theorem dJxe99ae_doubleToLongBits_ccdee_8 : decode cJxe99ae_doubleToLongBits_ccdee 8 = .ok (.invokestatic 134, 3) := by decide +kernel
theorem dJxe99ae_doubleToLongBits_ccdee_11 : decode cJxe99ae_doubleToLongBits_ccdee 11 = .ok (.lreturn, 1) := by decide +kernel
theorem dJxe99ae_doubleToLongBits_ccdee_12 : decode cJxe99ae_doubleToLongBits_ccdee 12 = .ok (.ldc2_w 137, 3) := by decide +kernel
theorem dJxe99ae_doubleToLongBits_ccdee_15 : decode cJxe99ae_doubleToLongBits_ccdee 15 = .ok (.lreturn, 1) := by decide +kernel
theorem dJ9_floorMod_7cf53_0 : decode cJ9_floorMod_7cf53 0 = .ok (.iload_n 0, 1) := by decide +kernel
theorem dJ9_floorMod_7cf53_1 : decode cJ9_floorMod_7cf53 1 = .ok (.iload_n 1, 1) := by decide +kernel
theorem dJ9_floorMod_7cf53_2 : decode cJ9_floorMod_7cf53 2 = .ok (.irem, 1) := by decide +kernel
theorem dJ9_floorMod_7cf53_3 : decode cJ9_floorMod_7cf53 3 = .ok (.istore_n 2, 1) := by decide +kernel
theorem dJ9_floorMod_7cf53_4 : decode cJ9_floorMod_7cf53 4 = .ok (.iload_n 0, 1) := by decide +kernel
theorem dJ9_floorMod_7cf53_5 : decode cJ9_floorMod_7cf53 5 = .ok (.iload_n 1, 1) := by decide +kernel
theorem dJ9_floorMod_7cf53_6 : decode cJ9_floorMod_7cf53 6 = .ok (.ixor, 1) := by decide +kernel
theorem dJ9_floorMod_7cf53_7 : decode cJ9_floorMod_7cf53 7 = .ok (.ifCond .ge 11, 3) := by decide +kernel
theorem dJ9_floorMod_7cf53_10 : decode cJ9_floorMod_7cf53 10 = .ok (.iload_n 2, 1) := by decide +kernel
theorem dJ9_floorMod_7cf53_11 : decode cJ9_floorMod_7cf53 11 = .ok (.ifCond .eq 7, 3) := by decide +kernel
theorem dJ9_floorMod_7cf53_14 : decode cJ9_floorMod_7cf53 14 = .ok (.iload_n 2, 1) := by decide +kernel
theorem dJ9_floorMod_7cf53_15 : decode cJ9_floorMod_7cf53 15 = .ok (.iload_n 1, 1) := by decide +kernel
theorem dJ9_floorMod_7cf53_16 : decode cJ9_floorMod_7cf53 16 = .ok (.iadd, 1) := by decide +kernel
theorem dJ9_floorMod_7cf53_17 : decode cJ9_floorMod_7cf53 17 = .ok (.ireturn, 1) := by decide +kernel
theorem dJ9_floorMod_7cf53_18 : decode cJ9_floorMod_7cf53 18 = .ok (.iload_n 2, 1) := by decide +kernel
theorem dJ9_floorMod_7cf53_19 : decode cJ9_floorMod_7cf53 19 = .ok (.ireturn, 1) := by decide +kernel
theorem dJ9_max_7cf53_0 : decode cJ9_max_7cf53 0 = .ok (.iload_n 0, 1) := by decide +kernel
theorem dJ9_max_7cf53_1 : decode cJ9_max_7cf53 1 = .ok (.iload_n 1, 1) := by decide +kernel
theorem dJ9_max_7cf53_2 : decode cJ9_max_7cf53 2 = .ok (.if_icmp .lt 7, 3) := by decide +kernel
theorem dJ9_max_7cf53_5 : decode cJ9_max_7cf53 5 = .ok (.iload_n 0, 1) := by decide +kernel
theorem dJ9_max_7cf53_6 : decode cJ9_max_7cf53 6 = .ok (.goto 4, 3) := by decide +kernel
theorem dJ9_max_7cf53_9 : decode cJ9_max_7cf53 9 = .ok (.iload_n 1, 1) := by decide +kernel
theorem dJ9_max_7cf53_10 : decode cJ9_max_7cf53 10 = .ok (.ireturn, 1) := by decide +kernel
theorem dJ9_min_7cf53_0 : decode cJ9_min_7cf53 0 = .ok (.iload_n 0, 1) := by decide +kernel
theorem dJ9_min_7cf53_1 : decode cJ9_min_7cf53 1 = .ok (.iload_n 1, 1) := by decide +kernel
theorem dJ9_min_7cf53_2 : decode cJ9_min_7cf53 2 = .ok (.if_icmp .gt 7, 3) := by decide +kernel
theorem dJ9_min_7cf53_5 : decode cJ9_min_7cf53 5 = .ok (.iload_n 0, 1) := by decide +kernel
theorem dJ9_min_7cf53_6 : decode cJ9_min_7cf53 6 = .ok (.goto 4, 3) := by decide +kernel
theorem dJ9_min_7cf53_9 : decode cJ9_min_7cf53 9 = .ok (.iload_n 1, 1) := by decide +kernel
theorem dJ9_min_7cf53_10 : decode cJ9_min_7cf53 10 = .ok (.ireturn, 1) := by decide +kernel
theorem dL_earn_0 : decode cL_earn 0 = .ok (.aload_n 2, 1) := by decide +kernel
theorem dL_earn_1 : decode cL_earn 1 = .ok (.iconst 0, 1) := by decide +kernel
theorem dL_earn_2 : decode cL_earn 2 = .ok (.aload_n 0, 1) := by decide +kernel
theorem dL_earn_3 : decode cL_earn 3 = .ok (.iload_n 1, 1) := by decide +kernel
theorem dL_earn_4 : decode cL_earn 4 = .ok (.invokevirtual 7, 3) := by decide +kernel
theorem dL_earn_7 : decode cL_earn 7 = .ok (.i2l, 1) := by decide +kernel
theorem dL_earn_8 : decode cL_earn 8 = .ok (.lastore, 1) := by decide +kernel
theorem dL_earn_9 : decode cL_earn 9 = .ok (.goto 9, 3) := by decide +kernel
theorem dL_earn_12 : decode cL_earn 12 = .ok (.astore_n 3, 1) := by decide +kernel
theorem dL_earn_13 : decode cL_earn 13 = .ok (.iconst 1, 1) := by decide +kernel
theorem dL_earn_14 : decode cL_earn 14 = .ok (.ireturn, 1) := by decide +kernel
theorem dL_earn_15 : decode cL_earn 15 = .ok (.astore_n 3, 1) := by decide +kernel
theorem dL_earn_16 : decode cL_earn 16 = .ok (.iconst 2, 1) := by decide +kernel
theorem dL_earn_17 : decode cL_earn 17 = .ok (.ireturn, 1) := by decide +kernel
theorem dL_earn_18 : decode cL_earn 18 = .ok (.iconst 0, 1) := by decide +kernel
theorem dL_earn_19 : decode cL_earn 19 = .ok (.ireturn, 1) := by decide +kernel
theorem dL_load_0 : decode cL_load 0 = .ok (.aload_n 3, 1) := by decide +kernel
theorem dL_load_1 : decode cL_load 1 = .ok (.iconst 0, 1) := by decide +kernel
theorem dL_load_2 : decode cL_load 2 = .ok (.aload_n 0, 1) := by decide +kernel
theorem dL_load_3 : decode cL_load 3 = .ok (.iload_n 1, 1) := by decide +kernel
theorem dL_load_4 : decode cL_load 4 = .ok (.iload_n 2, 1) := by decide +kernel
theorem dL_load_5 : decode cL_load 5 = .ok (.invokevirtual 17, 3) := by decide +kernel
theorem dL_load_8 : decode cL_load 8 = .ok (.i2l, 1) := by decide +kernel
theorem dL_load_9 : decode cL_load 9 = .ok (.lastore, 1) := by decide +kernel
theorem dL_load_10 : decode cL_load 10 = .ok (.goto 11, 3) := by decide +kernel
theorem dL_load_13 : decode cL_load 13 = .ok (.astore 4, 2) := by decide +kernel
theorem dL_load_15 : decode cL_load 15 = .ok (.iconst 1, 1) := by decide +kernel
theorem dL_load_16 : decode cL_load 16 = .ok (.ireturn, 1) := by decide +kernel
theorem dL_load_17 : decode cL_load 17 = .ok (.astore 4, 2) := by decide +kernel
theorem dL_load_19 : decode cL_load 19 = .ok (.iconst 2, 1) := by decide +kernel
theorem dL_load_20 : decode cL_load 20 = .ok (.ireturn, 1) := by decide +kernel
theorem dL_load_21 : decode cL_load 21 = .ok (.iconst 0, 1) := by decide +kernel
theorem dL_load_22 : decode cL_load 22 = .ok (.ireturn, 1) := by decide +kernel
theorem dL_set_0 : decode cL_set 0 = .ok (.aload_n 3, 1) := by decide +kernel
theorem dL_set_1 : decode cL_set 1 = .ok (.iconst 0, 1) := by decide +kernel
theorem dL_set_2 : decode cL_set 2 = .ok (.aload_n 0, 1) := by decide +kernel
theorem dL_set_3 : decode cL_set 3 = .ok (.iload_n 1, 1) := by decide +kernel
theorem dL_set_4 : decode cL_set 4 = .ok (.iload_n 2, 1) := by decide +kernel
theorem dL_set_5 : decode cL_set 5 = .ok (.invokevirtual 23, 3) := by decide +kernel
theorem dL_set_8 : decode cL_set 8 = .ok (.i2l, 1) := by decide +kernel
theorem dL_set_9 : decode cL_set 9 = .ok (.lastore, 1) := by decide +kernel
theorem dL_set_10 : decode cL_set 10 = .ok (.goto 11, 3) := by decide +kernel
theorem dL_set_13 : decode cL_set 13 = .ok (.astore 4, 2) := by decide +kernel
theorem dL_set_15 : decode cL_set 15 = .ok (.iconst 1, 1) := by decide +kernel
theorem dL_set_16 : decode cL_set 16 = .ok (.ireturn, 1) := by decide +kernel
theorem dL_set_17 : decode cL_set 17 = .ok (.astore 4, 2) := by decide +kernel
theorem dL_set_19 : decode cL_set 19 = .ok (.iconst 2, 1) := by decide +kernel
theorem dL_set_20 : decode cL_set 20 = .ok (.ireturn, 1) := by decide +kernel
theorem dL_set_21 : decode cL_set 21 = .ok (.iconst 0, 1) := by decide +kernel
theorem dL_set_22 : decode cL_set 22 = .ok (.ireturn, 1) := by decide +kernel
theorem dL_step_0 : decode cL_step 0 = .ok (.aload_n 3, 1) := by decide +kernel
theorem dL_step_1 : decode cL_step 1 = .ok (.iconst 0, 1) := by decide +kernel
theorem dL_step_2 : decode cL_step 2 = .ok (.aload_n 0, 1) := by decide +kernel
theorem dL_step_3 : decode cL_step 3 = .ok (.iload_n 1, 1) := by decide +kernel
theorem dL_step_4 : decode cL_step 4 = .ok (.iload_n 2, 1) := by decide +kernel
theorem dL_step_5 : decode cL_step 5 = .ok (.invokevirtual 26, 3) := by decide +kernel
theorem dL_step_8 : decode cL_step 8 = .ok (.i2l, 1) := by decide +kernel
theorem dL_step_9 : decode cL_step 9 = .ok (.lastore, 1) := by decide +kernel
theorem dL_step_10 : decode cL_step 10 = .ok (.goto 15, 3) := by decide +kernel
theorem dL_step_13 : decode cL_step 13 = .ok (.astore 4, 2) := by decide +kernel
theorem dL_step_15 : decode cL_step 15 = .ok (.iconst 1, 1) := by decide +kernel
theorem dL_step_16 : decode cL_step 16 = .ok (.ireturn, 1) := by decide +kernel
theorem dL_step_17 : decode cL_step 17 = .ok (.astore 4, 2) := by decide +kernel
theorem dL_step_19 : decode cL_step 19 = .ok (.iconst 2, 1) := by decide +kernel
theorem dL_step_20 : decode cL_step 20 = .ok (.ireturn, 1) := by decide +kernel
theorem dL_step_21 : decode cL_step 21 = .ok (.astore 4, 2) := by decide +kernel
theorem dL_step_23 : decode cL_step 23 = .ok (.iconst 3, 1) := by decide +kernel
theorem dL_step_24 : decode cL_step 24 = .ok (.ireturn, 1) := by decide +kernel
theorem dL_step_25 : decode cL_step 25 = .ok (.iconst 0, 1) := by decide +kernel
theorem dL_step_26 : decode cL_step 26 = .ok (.ireturn, 1) := by decide +kernel
theorem dL_go_0 : decode cL_go 0 = .ok (.aload_n 3, 1) := by decide +kernel
theorem dL_go_1 : decode cL_go 1 = .ok (.iconst 0, 1) := by decide +kernel
theorem dL_go_2 : decode cL_go 2 = .ok (.aload_n 0, 1) := by decide +kernel
theorem dL_go_3 : decode cL_go 3 = .ok (.iload_n 1, 1) := by decide +kernel
theorem dL_go_4 : decode cL_go 4 = .ok (.iload_n 2, 1) := by decide +kernel
theorem dL_go_5 : decode cL_go 5 = .ok (.invokevirtual 29, 3) := by decide +kernel
theorem dL_go_8 : decode cL_go 8 = .ok (.i2l, 1) := by decide +kernel
theorem dL_go_9 : decode cL_go 9 = .ok (.lastore, 1) := by decide +kernel
theorem dL_go_10 : decode cL_go 10 = .ok (.goto 15, 3) := by decide +kernel
theorem dL_go_13 : decode cL_go 13 = .ok (.astore 4, 2) := by decide +kernel
theorem dL_go_15 : decode cL_go 15 = .ok (.iconst 1, 1) := by decide +kernel
theorem dL_go_16 : decode cL_go 16 = .ok (.ireturn, 1) := by decide +kernel
theorem dL_go_17 : decode cL_go 17 = .ok (.astore 4, 2) := by decide +kernel
theorem dL_go_19 : decode cL_go 19 = .ok (.iconst 2, 1) := by decide +kernel
theorem dL_go_20 : decode cL_go 20 = .ok (.ireturn, 1) := by decide +kernel
theorem dL_go_21 : decode cL_go 21 = .ok (.astore 4, 2) := by decide +kernel
theorem dL_go_23 : decode cL_go 23 = .ok (.iconst 3, 1) := by decide +kernel
theorem dL_go_24 : decode cL_go 24 = .ok (.ireturn, 1) := by decide +kernel
theorem dL_go_25 : decode cL_go 25 = .ok (.iconst 0, 1) := by decide +kernel
theorem dL_go_26 : decode cL_go 26 = .ok (.ireturn, 1) := by decide +kernel
theorem dL_home_0 : decode cL_home 0 = .ok (.aload_n 2, 1) := by decide +kernel
theorem dL_home_1 : decode cL_home 1 = .ok (.iconst 0, 1) := by decide +kernel
theorem dL_home_2 : decode cL_home 2 = .ok (.aload_n 0, 1) := by decide +kernel
theorem dL_home_3 : decode cL_home 3 = .ok (.iload_n 1, 1) := by decide +kernel
theorem dL_home_4 : decode cL_home 4 = .ok (.invokevirtual 32, 3) := by decide +kernel
theorem dL_home_7 : decode cL_home 7 = .ok (.i2l, 1) := by decide +kernel
theorem dL_home_8 : decode cL_home 8 = .ok (.lastore, 1) := by decide +kernel
theorem dL_home_9 : decode cL_home 9 = .ok (.goto 6, 3) := by decide +kernel
theorem dL_home_12 : decode cL_home 12 = .ok (.astore_n 3, 1) := by decide +kernel
theorem dL_home_13 : decode cL_home 13 = .ok (.iconst 1, 1) := by decide +kernel
theorem dL_home_14 : decode cL_home 14 = .ok (.ireturn, 1) := by decide +kernel
theorem dL_home_15 : decode cL_home 15 = .ok (.iconst 0, 1) := by decide +kernel
theorem dL_home_16 : decode cL_home 16 = .ok (.ireturn, 1) := by decide +kernel
theorem dL_grease_0 : decode cL_grease 0 = .ok (.aload_n 2, 1) := by decide +kernel
theorem dL_grease_1 : decode cL_grease 1 = .ok (.iconst 0, 1) := by decide +kernel
theorem dL_grease_2 : decode cL_grease 2 = .ok (.aload_n 0, 1) := by decide +kernel
theorem dL_grease_3 : decode cL_grease 3 = .ok (.iload_n 1, 1) := by decide +kernel
theorem dL_grease_4 : decode cL_grease 4 = .ok (.invokevirtual 35, 3) := by decide +kernel
theorem dL_grease_7 : decode cL_grease 7 = .ok (.i2l, 1) := by decide +kernel
theorem dL_grease_8 : decode cL_grease 8 = .ok (.lastore, 1) := by decide +kernel
theorem dL_grease_9 : decode cL_grease 9 = .ok (.goto 9, 3) := by decide +kernel
theorem dL_grease_12 : decode cL_grease 12 = .ok (.astore_n 3, 1) := by decide +kernel
theorem dL_grease_13 : decode cL_grease 13 = .ok (.iconst 1, 1) := by decide +kernel
theorem dL_grease_14 : decode cL_grease 14 = .ok (.ireturn, 1) := by decide +kernel
theorem dL_grease_15 : decode cL_grease 15 = .ok (.astore_n 3, 1) := by decide +kernel
theorem dL_grease_16 : decode cL_grease 16 = .ok (.iconst 2, 1) := by decide +kernel
theorem dL_grease_17 : decode cL_grease 17 = .ok (.ireturn, 1) := by decide +kernel
theorem dL_grease_18 : decode cL_grease 18 = .ok (.iconst 0, 1) := by decide +kernel
theorem dL_grease_19 : decode cL_grease 19 = .ok (.ireturn, 1) := by decide +kernel
theorem dL_mend_0 : decode cL_mend 0 = .ok (.aload_n 3, 1) := by decide +kernel
theorem dL_mend_1 : decode cL_mend 1 = .ok (.iconst 0, 1) := by decide +kernel
theorem dL_mend_2 : decode cL_mend 2 = .ok (.aload_n 0, 1) := by decide +kernel
theorem dL_mend_3 : decode cL_mend 3 = .ok (.iload_n 1, 1) := by decide +kernel
theorem dL_mend_4 : decode cL_mend 4 = .ok (.iload_n 2, 1) := by decide +kernel
theorem dL_mend_5 : decode cL_mend 5 = .ok (.invokevirtual 38, 3) := by decide +kernel
theorem dL_mend_8 : decode cL_mend 8 = .ok (.i2l, 1) := by decide +kernel
theorem dL_mend_9 : decode cL_mend 9 = .ok (.lastore, 1) := by decide +kernel
theorem dL_mend_10 : decode cL_mend 10 = .ok (.goto 11, 3) := by decide +kernel
theorem dL_mend_13 : decode cL_mend 13 = .ok (.astore 4, 2) := by decide +kernel
theorem dL_mend_15 : decode cL_mend 15 = .ok (.iconst 1, 1) := by decide +kernel
theorem dL_mend_16 : decode cL_mend 16 = .ok (.ireturn, 1) := by decide +kernel
theorem dL_mend_17 : decode cL_mend 17 = .ok (.astore 4, 2) := by decide +kernel
theorem dL_mend_19 : decode cL_mend 19 = .ok (.iconst 2, 1) := by decide +kernel
theorem dL_mend_20 : decode cL_mend 20 = .ok (.ireturn, 1) := by decide +kernel
theorem dL_mend_21 : decode cL_mend 21 = .ok (.iconst 0, 1) := by decide +kernel
theorem dL_mend_22 : decode cL_mend 22 = .ok (.ireturn, 1) := by decide +kernel
theorem dL_append_0 : decode cL_append 0 = .ok (.aload_n 2, 1) := by decide +kernel
theorem dL_append_1 : decode cL_append 1 = .ok (.iconst 0, 1) := by decide +kernel
theorem dL_append_2 : decode cL_append 2 = .ok (.aload_n 0, 1) := by decide +kernel
theorem dL_append_3 : decode cL_append 3 = .ok (.iload_n 1, 1) := by decide +kernel
theorem dL_append_4 : decode cL_append 4 = .ok (.invokevirtual 41, 3) := by decide +kernel
theorem dL_append_7 : decode cL_append 7 = .ok (.i2l, 1) := by decide +kernel
theorem dL_append_8 : decode cL_append 8 = .ok (.lastore, 1) := by decide +kernel
theorem dL_append_9 : decode cL_append 9 = .ok (.goto 9, 3) := by decide +kernel
theorem dL_append_12 : decode cL_append 12 = .ok (.astore_n 3, 1) := by decide +kernel
theorem dL_append_13 : decode cL_append 13 = .ok (.iconst 1, 1) := by decide +kernel
theorem dL_append_14 : decode cL_append 14 = .ok (.ireturn, 1) := by decide +kernel
theorem dL_append_15 : decode cL_append 15 = .ok (.astore_n 3, 1) := by decide +kernel
theorem dL_append_16 : decode cL_append 16 = .ok (.iconst 2, 1) := by decide +kernel
theorem dL_append_17 : decode cL_append 17 = .ok (.ireturn, 1) := by decide +kernel
theorem dL_append_18 : decode cL_append 18 = .ok (.iconst 0, 1) := by decide +kernel
theorem dL_append_19 : decode cL_append 19 = .ok (.ireturn, 1) := by decide +kernel
theorem dL_run_0 : decode cL_run 0 = .ok (.aload_n 1, 1) := by decide +kernel
theorem dL_run_1 : decode cL_run 1 = .ok (.iconst 0, 1) := by decide +kernel
theorem dL_run_2 : decode cL_run 2 = .ok (.aload_n 0, 1) := by decide +kernel
theorem dL_run_3 : decode cL_run 3 = .ok (.invokevirtual 44, 3) := by decide +kernel
theorem dL_run_6 : decode cL_run 6 = .ok (.i2l, 1) := by decide +kernel
theorem dL_run_7 : decode cL_run 7 = .ok (.lastore, 1) := by decide +kernel
theorem dL_run_8 : decode cL_run 8 = .ok (.goto 6, 3) := by decide +kernel
theorem dL_run_11 : decode cL_run 11 = .ok (.astore_n 2, 1) := by decide +kernel
theorem dL_run_12 : decode cL_run 12 = .ok (.iconst 1, 1) := by decide +kernel
theorem dL_run_13 : decode cL_run 13 = .ok (.ireturn, 1) := by decide +kernel
theorem dL_run_14 : decode cL_run 14 = .ok (.iconst 0, 1) := by decide +kernel
theorem dL_run_15 : decode cL_run 15 = .ok (.ireturn, 1) := by decide +kernel
theorem dL_undo_0 : decode cL_undo 0 = .ok (.aload_n 1, 1) := by decide +kernel
theorem dL_undo_1 : decode cL_undo 1 = .ok (.iconst 0, 1) := by decide +kernel
theorem dL_undo_2 : decode cL_undo 2 = .ok (.aload_n 0, 1) := by decide +kernel
theorem dL_undo_3 : decode cL_undo 3 = .ok (.invokevirtual 48, 3) := by decide +kernel
theorem dL_undo_6 : decode cL_undo 6 = .ok (.i2l, 1) := by decide +kernel
theorem dL_undo_7 : decode cL_undo 7 = .ok (.lastore, 1) := by decide +kernel
theorem dL_undo_8 : decode cL_undo 8 = .ok (.goto 6, 3) := by decide +kernel
theorem dL_undo_11 : decode cL_undo 11 = .ok (.astore_n 2, 1) := by decide +kernel
theorem dL_undo_12 : decode cL_undo 12 = .ok (.iconst 1, 1) := by decide +kernel
theorem dL_undo_13 : decode cL_undo 13 = .ok (.ireturn, 1) := by decide +kernel
theorem dL_undo_14 : decode cL_undo 14 = .ok (.iconst 0, 1) := by decide +kernel
theorem dL_undo_15 : decode cL_undo 15 = .ok (.ireturn, 1) := by decide +kernel
theorem dL_axis_0 : decode cL_axis 0 = .ok (.aload_n 3, 1) := by decide +kernel
theorem dL_axis_1 : decode cL_axis 1 = .ok (.iconst 0, 1) := by decide +kernel
theorem dL_axis_2 : decode cL_axis 2 = .ok (.aload_n 0, 1) := by decide +kernel
theorem dL_axis_3 : decode cL_axis 3 = .ok (.iload_n 1, 1) := by decide +kernel
theorem dL_axis_4 : decode cL_axis 4 = .ok (.iload_n 2, 1) := by decide +kernel
theorem dL_axis_5 : decode cL_axis 5 = .ok (.invokevirtual 51, 3) := by decide +kernel
theorem dL_axis_8 : decode cL_axis 8 = .ok (.i2l, 1) := by decide +kernel
theorem dL_axis_9 : decode cL_axis 9 = .ok (.lastore, 1) := by decide +kernel
theorem dL_axis_10 : decode cL_axis 10 = .ok (.goto 11, 3) := by decide +kernel
theorem dL_axis_13 : decode cL_axis 13 = .ok (.astore 4, 2) := by decide +kernel
theorem dL_axis_15 : decode cL_axis 15 = .ok (.iconst 1, 1) := by decide +kernel
theorem dL_axis_16 : decode cL_axis 16 = .ok (.ireturn, 1) := by decide +kernel
theorem dL_axis_17 : decode cL_axis 17 = .ok (.astore 4, 2) := by decide +kernel
theorem dL_axis_19 : decode cL_axis 19 = .ok (.iconst 2, 1) := by decide +kernel
theorem dL_axis_20 : decode cL_axis 20 = .ok (.ireturn, 1) := by decide +kernel
theorem dL_axis_21 : decode cL_axis 21 = .ok (.iconst 0, 1) := by decide +kernel
theorem dL_axis_22 : decode cL_axis 22 = .ok (.ireturn, 1) := by decide +kernel
theorem dL_wear_0 : decode cL_wear 0 = .ok (.aload_n 3, 1) := by decide +kernel
theorem dL_wear_1 : decode cL_wear 1 = .ok (.iconst 0, 1) := by decide +kernel
theorem dL_wear_2 : decode cL_wear 2 = .ok (.aload_n 0, 1) := by decide +kernel
theorem dL_wear_3 : decode cL_wear 3 = .ok (.iload_n 1, 1) := by decide +kernel
theorem dL_wear_4 : decode cL_wear 4 = .ok (.iload_n 2, 1) := by decide +kernel
theorem dL_wear_5 : decode cL_wear 5 = .ok (.invokevirtual 54, 3) := by decide +kernel
theorem dL_wear_8 : decode cL_wear 8 = .ok (.i2l, 1) := by decide +kernel
theorem dL_wear_9 : decode cL_wear 9 = .ok (.lastore, 1) := by decide +kernel
theorem dL_wear_10 : decode cL_wear 10 = .ok (.goto 7, 3) := by decide +kernel
theorem dL_wear_13 : decode cL_wear 13 = .ok (.astore 4, 2) := by decide +kernel
theorem dL_wear_15 : decode cL_wear 15 = .ok (.iconst 1, 1) := by decide +kernel
theorem dL_wear_16 : decode cL_wear 16 = .ok (.ireturn, 1) := by decide +kernel
theorem dL_wear_17 : decode cL_wear 17 = .ok (.iconst 0, 1) := by decide +kernel
theorem dL_wear_18 : decode cL_wear 18 = .ok (.ireturn, 1) := by decide +kernel
theorem dL_count_0 : decode cL_count 0 = .ok (.aload_n 2, 1) := by decide +kernel
theorem dL_count_1 : decode cL_count 1 = .ok (.iconst 0, 1) := by decide +kernel
theorem dL_count_2 : decode cL_count 2 = .ok (.aload_n 0, 1) := by decide +kernel
theorem dL_count_3 : decode cL_count 3 = .ok (.iload_n 1, 1) := by decide +kernel
theorem dL_count_4 : decode cL_count 4 = .ok (.invokevirtual 57, 3) := by decide +kernel
theorem dL_count_7 : decode cL_count 7 = .ok (.i2l, 1) := by decide +kernel
theorem dL_count_8 : decode cL_count 8 = .ok (.lastore, 1) := by decide +kernel
theorem dL_count_9 : decode cL_count 9 = .ok (.goto 6, 3) := by decide +kernel
theorem dL_count_12 : decode cL_count 12 = .ok (.astore_n 3, 1) := by decide +kernel
theorem dL_count_13 : decode cL_count 13 = .ok (.iconst 1, 1) := by decide +kernel
theorem dL_count_14 : decode cL_count 14 = .ok (.ireturn, 1) := by decide +kernel
theorem dL_count_15 : decode cL_count 15 = .ok (.iconst 0, 1) := by decide +kernel
theorem dL_count_16 : decode cL_count 16 = .ok (.ireturn, 1) := by decide +kernel
theorem dL_setting_0 : decode cL_setting 0 = .ok (.aload_n 2, 1) := by decide +kernel
theorem dL_setting_1 : decode cL_setting 1 = .ok (.iconst 0, 1) := by decide +kernel
theorem dL_setting_2 : decode cL_setting 2 = .ok (.aload_n 0, 1) := by decide +kernel
theorem dL_setting_3 : decode cL_setting 3 = .ok (.iload_n 1, 1) := by decide +kernel
theorem dL_setting_4 : decode cL_setting 4 = .ok (.invokevirtual 60, 3) := by decide +kernel
theorem dL_setting_7 : decode cL_setting 7 = .ok (.i2l, 1) := by decide +kernel
theorem dL_setting_8 : decode cL_setting 8 = .ok (.lastore, 1) := by decide +kernel
theorem dL_setting_9 : decode cL_setting 9 = .ok (.goto 6, 3) := by decide +kernel
theorem dL_setting_12 : decode cL_setting 12 = .ok (.astore_n 3, 1) := by decide +kernel
theorem dL_setting_13 : decode cL_setting 13 = .ok (.iconst 1, 1) := by decide +kernel
theorem dL_setting_14 : decode cL_setting 14 = .ok (.ireturn, 1) := by decide +kernel
theorem dL_setting_15 : decode cL_setting 15 = .ok (.iconst 0, 1) := by decide +kernel
theorem dL_setting_16 : decode cL_setting 16 = .ok (.ireturn, 1) := by decide +kernel
theorem dL_toll_0 : decode cL_toll 0 = .ok (.aload_n 3, 1) := by decide +kernel
theorem dL_toll_1 : decode cL_toll 1 = .ok (.iconst 0, 1) := by decide +kernel
theorem dL_toll_2 : decode cL_toll 2 = .ok (.aload_n 0, 1) := by decide +kernel
theorem dL_toll_3 : decode cL_toll 3 = .ok (.iload_n 1, 1) := by decide +kernel
theorem dL_toll_4 : decode cL_toll 4 = .ok (.iload_n 2, 1) := by decide +kernel
theorem dL_toll_5 : decode cL_toll 5 = .ok (.invokevirtual 63, 3) := by decide +kernel
theorem dL_toll_8 : decode cL_toll 8 = .ok (.i2l, 1) := by decide +kernel
theorem dL_toll_9 : decode cL_toll 9 = .ok (.lastore, 1) := by decide +kernel
theorem dL_toll_10 : decode cL_toll 10 = .ok (.goto 7, 3) := by decide +kernel
theorem dL_toll_13 : decode cL_toll 13 = .ok (.astore 4, 2) := by decide +kernel
theorem dL_toll_15 : decode cL_toll 15 = .ok (.iconst 1, 1) := by decide +kernel
theorem dL_toll_16 : decode cL_toll 16 = .ok (.ireturn, 1) := by decide +kernel
theorem dL_toll_17 : decode cL_toll 17 = .ok (.iconst 0, 1) := by decide +kernel
theorem dL_toll_18 : decode cL_toll 18 = .ok (.ireturn, 1) := by decide +kernel
theorem dL_slips_0 : decode cL_slips 0 = .ok (.aload_n 3, 1) := by decide +kernel
theorem dL_slips_1 : decode cL_slips 1 = .ok (.iconst 0, 1) := by decide +kernel
theorem dL_slips_2 : decode cL_slips 2 = .ok (.aload_n 0, 1) := by decide +kernel
theorem dL_slips_3 : decode cL_slips 3 = .ok (.iload_n 1, 1) := by decide +kernel
theorem dL_slips_4 : decode cL_slips 4 = .ok (.iload_n 2, 1) := by decide +kernel
theorem dL_slips_5 : decode cL_slips 5 = .ok (.invokevirtual 67, 3) := by decide +kernel
theorem dL_slips_8 : decode cL_slips 8 = .ok (.i2l, 1) := by decide +kernel
theorem dL_slips_9 : decode cL_slips 9 = .ok (.lastore, 1) := by decide +kernel
theorem dL_slips_10 : decode cL_slips 10 = .ok (.goto 7, 3) := by decide +kernel
theorem dL_slips_13 : decode cL_slips 13 = .ok (.astore 4, 2) := by decide +kernel
theorem dL_slips_15 : decode cL_slips 15 = .ok (.iconst 1, 1) := by decide +kernel
theorem dL_slips_16 : decode cL_slips 16 = .ok (.ireturn, 1) := by decide +kernel
theorem dL_slips_17 : decode cL_slips 17 = .ok (.iconst 0, 1) := by decide +kernel
theorem dL_slips_18 : decode cL_slips 18 = .ok (.ireturn, 1) := by decide +kernel
theorem dL_cost_0 : decode cL_cost 0 = .ok (.aload 4, 2) := by decide +kernel
theorem dL_cost_2 : decode cL_cost 2 = .ok (.iconst 0, 1) := by decide +kernel
theorem dL_cost_3 : decode cL_cost 3 = .ok (.aload_n 0, 1) := by decide +kernel
theorem dL_cost_4 : decode cL_cost 4 = .ok (.iload_n 1, 1) := by decide +kernel
theorem dL_cost_5 : decode cL_cost 5 = .ok (.iload_n 2, 1) := by decide +kernel
theorem dL_cost_6 : decode cL_cost 6 = .ok (.iload_n 3, 1) := by decide +kernel
theorem dL_cost_7 : decode cL_cost 7 = .ok (.invokevirtual 70, 3) := by decide +kernel
theorem dL_cost_10 : decode cL_cost 10 = .ok (.i2l, 1) := by decide +kernel
theorem dL_cost_11 : decode cL_cost 11 = .ok (.lastore, 1) := by decide +kernel
theorem dL_cost_12 : decode cL_cost 12 = .ok (.goto 11, 3) := by decide +kernel
theorem dL_cost_15 : decode cL_cost 15 = .ok (.astore 5, 2) := by decide +kernel
theorem dL_cost_17 : decode cL_cost 17 = .ok (.iconst 1, 1) := by decide +kernel
theorem dL_cost_18 : decode cL_cost 18 = .ok (.ireturn, 1) := by decide +kernel
theorem dL_cost_19 : decode cL_cost 19 = .ok (.astore 5, 2) := by decide +kernel
theorem dL_cost_21 : decode cL_cost 21 = .ok (.iconst 2, 1) := by decide +kernel
theorem dL_cost_22 : decode cL_cost 22 = .ok (.ireturn, 1) := by decide +kernel
theorem dL_cost_23 : decode cL_cost 23 = .ok (.iconst 0, 1) := by decide +kernel
theorem dL_cost_24 : decode cL_cost 24 = .ok (.ireturn, 1) := by decide +kernel
theorem dL_ifHomed_0 : decode cL_ifHomed 0 = .ok (.aload_n 3, 1) := by decide +kernel
theorem dL_ifHomed_1 : decode cL_ifHomed 1 = .ok (.iconst 0, 1) := by decide +kernel
theorem dL_ifHomed_2 : decode cL_ifHomed 2 = .ok (.aload_n 0, 1) := by decide +kernel
theorem dL_ifHomed_3 : decode cL_ifHomed 3 = .ok (.iload_n 1, 1) := by decide +kernel
theorem dL_ifHomed_4 : decode cL_ifHomed 4 = .ok (.iload_n 2, 1) := by decide +kernel
theorem dL_ifHomed_5 : decode cL_ifHomed 5 = .ok (.invokevirtual 74, 3) := by decide +kernel
theorem dL_ifHomed_8 : decode cL_ifHomed 8 = .ok (.i2l, 1) := by decide +kernel
theorem dL_ifHomed_9 : decode cL_ifHomed 9 = .ok (.lastore, 1) := by decide +kernel
theorem dL_ifHomed_10 : decode cL_ifHomed 10 = .ok (.goto 11, 3) := by decide +kernel
theorem dL_ifHomed_13 : decode cL_ifHomed 13 = .ok (.astore 4, 2) := by decide +kernel
theorem dL_ifHomed_15 : decode cL_ifHomed 15 = .ok (.iconst 1, 1) := by decide +kernel
theorem dL_ifHomed_16 : decode cL_ifHomed 16 = .ok (.ireturn, 1) := by decide +kernel
theorem dL_ifHomed_17 : decode cL_ifHomed 17 = .ok (.astore 4, 2) := by decide +kernel
theorem dL_ifHomed_19 : decode cL_ifHomed 19 = .ok (.iconst 2, 1) := by decide +kernel
theorem dL_ifHomed_20 : decode cL_ifHomed 20 = .ok (.ireturn, 1) := by decide +kernel
theorem dL_ifHomed_21 : decode cL_ifHomed 21 = .ok (.iconst 0, 1) := by decide +kernel
theorem dL_ifHomed_22 : decode cL_ifHomed 22 = .ok (.ireturn, 1) := by decide +kernel
theorem dL_reach_0 : decode cL_reach 0 = .ok (.aload_n 3, 1) := by decide +kernel
theorem dL_reach_1 : decode cL_reach 1 = .ok (.iconst 0, 1) := by decide +kernel
theorem dL_reach_2 : decode cL_reach 2 = .ok (.aload_n 0, 1) := by decide +kernel
theorem dL_reach_3 : decode cL_reach 3 = .ok (.iload_n 1, 1) := by decide +kernel
theorem dL_reach_4 : decode cL_reach 4 = .ok (.iload_n 2, 1) := by decide +kernel
theorem dL_reach_5 : decode cL_reach 5 = .ok (.invokevirtual 77, 3) := by decide +kernel
theorem dL_reach_8 : decode cL_reach 8 = .ok (.i2l, 1) := by decide +kernel
theorem dL_reach_9 : decode cL_reach 9 = .ok (.lastore, 1) := by decide +kernel
theorem dL_reach_10 : decode cL_reach 10 = .ok (.goto 7, 3) := by decide +kernel
theorem dL_reach_13 : decode cL_reach 13 = .ok (.astore 4, 2) := by decide +kernel
theorem dL_reach_15 : decode cL_reach 15 = .ok (.iconst 1, 1) := by decide +kernel
theorem dL_reach_16 : decode cL_reach 16 = .ok (.ireturn, 1) := by decide +kernel
theorem dL_reach_17 : decode cL_reach 17 = .ok (.iconst 0, 1) := by decide +kernel
theorem dL_reach_18 : decode cL_reach 18 = .ok (.ireturn, 1) := by decide +kernel
theorem dL_couldBe_0 : decode cL_couldBe 0 = .ok (.aload_n 2, 1) := by decide +kernel
theorem dL_couldBe_1 : decode cL_couldBe 1 = .ok (.iconst 0, 1) := by decide +kernel
theorem dL_couldBe_2 : decode cL_couldBe 2 = .ok (.aload_n 0, 1) := by decide +kernel
theorem dL_couldBe_3 : decode cL_couldBe 3 = .ok (.iload_n 1, 1) := by decide +kernel
theorem dL_couldBe_4 : decode cL_couldBe 4 = .ok (.invokevirtual 80, 3) := by decide +kernel
theorem dL_couldBe_7 : decode cL_couldBe 7 = .ok (.i2l, 1) := by decide +kernel
theorem dL_couldBe_8 : decode cL_couldBe 8 = .ok (.lastore, 1) := by decide +kernel
theorem dL_couldBe_9 : decode cL_couldBe 9 = .ok (.goto 6, 3) := by decide +kernel
theorem dL_couldBe_12 : decode cL_couldBe 12 = .ok (.astore_n 3, 1) := by decide +kernel
theorem dL_couldBe_13 : decode cL_couldBe 13 = .ok (.iconst 1, 1) := by decide +kernel
theorem dL_couldBe_14 : decode cL_couldBe 14 = .ok (.ireturn, 1) := by decide +kernel
theorem dL_couldBe_15 : decode cL_couldBe 15 = .ok (.iconst 0, 1) := by decide +kernel
theorem dL_couldBe_16 : decode cL_couldBe 16 = .ok (.ireturn, 1) := by decide +kernel
theorem dL_worst_0 : decode cL_worst 0 = .ok (.aload_n 3, 1) := by decide +kernel
theorem dL_worst_1 : decode cL_worst 1 = .ok (.iconst 0, 1) := by decide +kernel
theorem dL_worst_2 : decode cL_worst 2 = .ok (.aload_n 0, 1) := by decide +kernel
theorem dL_worst_3 : decode cL_worst 3 = .ok (.iload_n 1, 1) := by decide +kernel
theorem dL_worst_4 : decode cL_worst 4 = .ok (.iload_n 2, 1) := by decide +kernel
theorem dL_worst_5 : decode cL_worst 5 = .ok (.invokevirtual 83, 3) := by decide +kernel
theorem dL_worst_8 : decode cL_worst 8 = .ok (.i2l, 1) := by decide +kernel
theorem dL_worst_9 : decode cL_worst 9 = .ok (.lastore, 1) := by decide +kernel
theorem dL_worst_10 : decode cL_worst 10 = .ok (.goto 11, 3) := by decide +kernel
theorem dL_worst_13 : decode cL_worst 13 = .ok (.astore 4, 2) := by decide +kernel
theorem dL_worst_15 : decode cL_worst 15 = .ok (.iconst 1, 1) := by decide +kernel
theorem dL_worst_16 : decode cL_worst 16 = .ok (.ireturn, 1) := by decide +kernel
theorem dL_worst_17 : decode cL_worst 17 = .ok (.astore 4, 2) := by decide +kernel
theorem dL_worst_19 : decode cL_worst 19 = .ok (.iconst 2, 1) := by decide +kernel
theorem dL_worst_20 : decode cL_worst 20 = .ok (.ireturn, 1) := by decide +kernel
theorem dL_worst_21 : decode cL_worst 21 = .ok (.iconst 0, 1) := by decide +kernel
theorem dL_worst_22 : decode cL_worst 22 = .ok (.ireturn, 1) := by decide +kernel
theorem dL_law_0 : decode cL_law 0 = .ok (.new 8, 3) := by decide +kernel
theorem dL_law_3 : decode cL_law 3 = .ok (.dup, 1) := by decide +kernel
theorem dL_law_4 : decode cL_law 4 = .ok (.invokespecial 86, 3) := by decide +kernel
theorem dL_law_7 : decode cL_law 7 = .ok (.astore_n 1, 1) := by decide +kernel
theorem dL_law_8 : decode cL_law 8 = .ok (.new 87, 3) := by decide +kernel
theorem dL_law_11 : decode cL_law 11 = .ok (.dup, 1) := by decide +kernel
theorem dL_law_12 : decode cL_law 12 = .ok (.invokespecial 89, 3) := by decide +kernel
theorem dL_law_15 : decode cL_law 15 = .ok (.astore_n 2, 1) := by decide +kernel
theorem dL_law_16 : decode cL_law 16 = .ok (.iconst 1, 1) := by decide +kernel
theorem dL_law_17 : decode cL_law 17 = .ok (.newarray .long, 2) := by decide +kernel
theorem dL_law_19 : decode cL_law 19 = .ok (.astore_n 3, 1) := by decide +kernel
theorem dL_law_20 : decode cL_law 20 = .ok (.iconst 0, 1) := by decide +kernel
theorem dL_law_21 : decode cL_law 21 = .ok (.istore 4, 2) := by decide +kernel
theorem dL_law_23 : decode cL_law 23 = .ok (.iload 4, 2) := by decide +kernel
theorem dL_law_25 : decode cL_law 25 = .ok (.aload_n 0, 1) := by decide +kernel
theorem dL_law_26 : decode cL_law 26 = .ok (.arraylength, 1) := by decide +kernel
theorem dL_law_27 : decode cL_law 27 = .ok (.iconst 4, 1) := by decide +kernel
theorem dL_law_28 : decode cL_law 28 = .ok (.isub, 1) := by decide +kernel
theorem dL_law_29 : decode cL_law 29 = .ok (.if_icmp .gt 1654, 3) := by decide +kernel
theorem dL_law_32 : decode cL_law 32 = .ok (.aload_n 0, 1) := by decide +kernel
theorem dL_law_33 : decode cL_law 33 = .ok (.iload 4, 2) := by decide +kernel
theorem dL_law_35 : decode cL_law 35 = .ok (.iaload, 1) := by decide +kernel
theorem dL_law_36 : decode cL_law 36 = .ok (.bipush 31, 2) := by decide +kernel
theorem dL_law_38 : decode cL_law 38 = .ok (.iand, 1) := by decide +kernel
theorem dL_law_39 : decode cL_law 39 = .ok (.tableswitch 1638 0 25 #[117, 173, 241, 309, 377, 445, 501, 557, 625, 681, 694, 707, 751, 795, 863, 931, 987, 1043, 1127, 1211, 1307, 1375, 1459, 1515, 1583, 1624], 117) := by decide +kernel
theorem dL_law_156 : decode cL_law 156 = .ok (.aload_n 1, 1) := by decide +kernel
theorem dL_law_157 : decode cL_law 157 = .ok (.aload_n 0, 1) := by decide +kernel
theorem dL_law_158 : decode cL_law 158 = .ok (.iload 4, 2) := by decide +kernel
theorem dL_law_160 : decode cL_law 160 = .ok (.iconst 1, 1) := by decide +kernel
theorem dL_law_161 : decode cL_law 161 = .ok (.iadd, 1) := by decide +kernel
theorem dL_law_162 : decode cL_law 162 = .ok (.iaload, 1) := by decide +kernel
theorem dL_law_163 : decode cL_law 163 = .ok (.aload_n 3, 1) := by decide +kernel
theorem dL_law_164 : decode cL_law 164 = .ok (.invokestatic 90, 3) := by decide +kernel
theorem dL_law_167 : decode cL_law 167 = .ok (.istore 5, 2) := by decide +kernel
theorem dL_law_169 : decode cL_law 169 = .ok (.aload_n 2, 1) := by decide +kernel
theorem dL_law_170 : decode cL_law 170 = .ok (.aload_n 0, 1) := by decide +kernel
theorem dL_law_171 : decode cL_law 171 = .ok (.iload 4, 2) := by decide +kernel
theorem dL_law_173 : decode cL_law 173 = .ok (.iconst 1, 1) := by decide +kernel
theorem dL_law_174 : decode cL_law 174 = .ok (.iadd, 1) := by decide +kernel
theorem dL_law_175 : decode cL_law 175 = .ok (.iaload, 1) := by decide +kernel
theorem dL_law_176 : decode cL_law 176 = .ok (.invokevirtual 95, 3) := by decide +kernel
theorem dL_law_179 : decode cL_law 179 = .ok (.istore 6, 2) := by decide +kernel
theorem dL_law_181 : decode cL_law 181 = .ok (.aload_n 2, 1) := by decide +kernel
theorem dL_law_182 : decode cL_law 182 = .ok (.invokevirtual 96, 3) := by decide +kernel
theorem dL_law_185 : decode cL_law 185 = .ok (.iload 5, 2) := by decide +kernel
theorem dL_law_187 : decode cL_law 187 = .ok (.if_icmp .eq 5, 3) := by decide +kernel
theorem dL_law_190 : decode cL_law 190 = .ok (.iconst 0, 1) := by decide +kernel
theorem dL_law_191 : decode cL_law 191 = .ok (.ireturn, 1) := by decide +kernel
theorem dL_law_192 : decode cL_law 192 = .ok (.iload 5, 2) := by decide +kernel
theorem dL_law_194 : decode cL_law 194 = .ok (.ifCond .ne 15, 3) := by decide +kernel
theorem dL_law_197 : decode cL_law 197 = .ok (.aload_n 3, 1) := by decide +kernel
theorem dL_law_198 : decode cL_law 198 = .ok (.iconst 0, 1) := by decide +kernel
theorem dL_law_199 : decode cL_law 199 = .ok (.laload, 1) := by decide +kernel
theorem dL_law_200 : decode cL_law 200 = .ok (.iload 6, 2) := by decide +kernel
theorem dL_law_202 : decode cL_law 202 = .ok (.i2l, 1) := by decide +kernel
theorem dL_law_203 : decode cL_law 203 = .ok (.lcmp, 1) := by decide +kernel
theorem dL_law_204 : decode cL_law 204 = .ok (.ifCond .eq 5, 3) := by decide +kernel
theorem dL_law_207 : decode cL_law 207 = .ok (.iconst 0, 1) := by decide +kernel
theorem dL_law_208 : decode cL_law 208 = .ok (.ireturn, 1) := by decide +kernel
theorem dL_law_209 : decode cL_law 209 = .ok (.goto 1468, 3) := by decide +kernel
theorem dL_law_212 : decode cL_law 212 = .ok (.aload_n 1, 1) := by decide +kernel
theorem dL_law_213 : decode cL_law 213 = .ok (.aload_n 0, 1) := by decide +kernel
theorem dL_law_214 : decode cL_law 214 = .ok (.iload 4, 2) := by decide +kernel
theorem dL_law_216 : decode cL_law 216 = .ok (.iconst 1, 1) := by decide +kernel
theorem dL_law_217 : decode cL_law 217 = .ok (.iadd, 1) := by decide +kernel
theorem dL_law_218 : decode cL_law 218 = .ok (.iaload, 1) := by decide +kernel
theorem dL_law_219 : decode cL_law 219 = .ok (.aload_n 0, 1) := by decide +kernel
theorem dL_law_220 : decode cL_law 220 = .ok (.iload 4, 2) := by decide +kernel
theorem dL_law_222 : decode cL_law 222 = .ok (.iconst 2, 1) := by decide +kernel
theorem dL_law_223 : decode cL_law 223 = .ok (.iadd, 1) := by decide +kernel
theorem dL_law_224 : decode cL_law 224 = .ok (.iaload, 1) := by decide +kernel
theorem dL_law_225 : decode cL_law 225 = .ok (.aload_n 3, 1) := by decide +kernel
theorem dL_law_226 : decode cL_law 226 = .ok (.invokestatic 99, 3) := by decide +kernel
theorem dL_law_229 : decode cL_law 229 = .ok (.istore 5, 2) := by decide +kernel
theorem dL_law_231 : decode cL_law 231 = .ok (.aload_n 2, 1) := by decide +kernel
theorem dL_law_232 : decode cL_law 232 = .ok (.aload_n 0, 1) := by decide +kernel
theorem dL_law_233 : decode cL_law 233 = .ok (.iload 4, 2) := by decide +kernel
theorem dL_law_235 : decode cL_law 235 = .ok (.iconst 1, 1) := by decide +kernel
theorem dL_law_236 : decode cL_law 236 = .ok (.iadd, 1) := by decide +kernel
theorem dL_law_237 : decode cL_law 237 = .ok (.iaload, 1) := by decide +kernel
theorem dL_law_238 : decode cL_law 238 = .ok (.aload_n 0, 1) := by decide +kernel
theorem dL_law_239 : decode cL_law 239 = .ok (.iload 4, 2) := by decide +kernel
theorem dL_law_241 : decode cL_law 241 = .ok (.iconst 2, 1) := by decide +kernel
theorem dL_law_242 : decode cL_law 242 = .ok (.iadd, 1) := by decide +kernel
theorem dL_law_243 : decode cL_law 243 = .ok (.iaload, 1) := by decide +kernel
theorem dL_law_244 : decode cL_law 244 = .ok (.invokevirtual 102, 3) := by decide +kernel
theorem dL_law_247 : decode cL_law 247 = .ok (.istore 6, 2) := by decide +kernel
theorem dL_law_249 : decode cL_law 249 = .ok (.aload_n 2, 1) := by decide +kernel
theorem dL_law_250 : decode cL_law 250 = .ok (.invokevirtual 96, 3) := by decide +kernel
theorem dL_law_253 : decode cL_law 253 = .ok (.iload 5, 2) := by decide +kernel
theorem dL_law_255 : decode cL_law 255 = .ok (.if_icmp .eq 5, 3) := by decide +kernel
theorem dL_law_258 : decode cL_law 258 = .ok (.iconst 0, 1) := by decide +kernel
theorem dL_law_259 : decode cL_law 259 = .ok (.ireturn, 1) := by decide +kernel
theorem dL_law_260 : decode cL_law 260 = .ok (.iload 5, 2) := by decide +kernel
theorem dL_law_262 : decode cL_law 262 = .ok (.ifCond .ne 15, 3) := by decide +kernel
theorem dL_law_265 : decode cL_law 265 = .ok (.aload_n 3, 1) := by decide +kernel
theorem dL_law_266 : decode cL_law 266 = .ok (.iconst 0, 1) := by decide +kernel
theorem dL_law_267 : decode cL_law 267 = .ok (.laload, 1) := by decide +kernel
theorem dL_law_268 : decode cL_law 268 = .ok (.iload 6, 2) := by decide +kernel
theorem dL_law_270 : decode cL_law 270 = .ok (.i2l, 1) := by decide +kernel
theorem dL_law_271 : decode cL_law 271 = .ok (.lcmp, 1) := by decide +kernel
theorem dL_law_272 : decode cL_law 272 = .ok (.ifCond .eq 5, 3) := by decide +kernel
theorem dL_law_275 : decode cL_law 275 = .ok (.iconst 0, 1) := by decide +kernel
end
section
theorem dL_law_276 : decode cL_law 276 = .ok (.ireturn, 1) := by decide +kernel
theorem dL_law_277 : decode cL_law 277 = .ok (.goto 1400, 3) := by decide +kernel
theorem dL_law_280 : decode cL_law 280 = .ok (.aload_n 1, 1) := by decide +kernel
theorem dL_law_281 : decode cL_law 281 = .ok (.aload_n 0, 1) := by decide +kernel
theorem dL_law_282 : decode cL_law 282 = .ok (.iload 4, 2) := by decide +kernel
theorem dL_law_284 : decode cL_law 284 = .ok (.iconst 1, 1) := by decide +kernel
theorem dL_law_285 : decode cL_law 285 = .ok (.iadd, 1) := by decide +kernel
theorem dL_law_286 : decode cL_law 286 = .ok (.iaload, 1) := by decide +kernel
theorem dL_law_287 : decode cL_law 287 = .ok (.aload_n 0, 1) := by decide +kernel
theorem dL_law_288 : decode cL_law 288 = .ok (.iload 4, 2) := by decide +kernel
theorem dL_law_290 : decode cL_law 290 = .ok (.iconst 2, 1) := by decide +kernel
theorem dL_law_291 : decode cL_law 291 = .ok (.iadd, 1) := by decide +kernel
theorem dL_law_292 : decode cL_law 292 = .ok (.iaload, 1) := by decide +kernel
theorem dL_law_293 : decode cL_law 293 = .ok (.aload_n 3, 1) := by decide +kernel
theorem dL_law_294 : decode cL_law 294 = .ok (.invokestatic 103, 3) := by decide +kernel
theorem dL_law_297 : decode cL_law 297 = .ok (.istore 5, 2) := by decide +kernel
theorem dL_law_299 : decode cL_law 299 = .ok (.aload_n 2, 1) := by decide +kernel
theorem dL_law_300 : decode cL_law 300 = .ok (.aload_n 0, 1) := by decide +kernel
theorem dL_law_301 : decode cL_law 301 = .ok (.iload 4, 2) := by decide +kernel
theorem dL_law_303 : decode cL_law 303 = .ok (.iconst 1, 1) := by decide +kernel
theorem dL_law_304 : decode cL_law 304 = .ok (.iadd, 1) := by decide +kernel
theorem dL_law_305 : decode cL_law 305 = .ok (.iaload, 1) := by decide +kernel
theorem dL_law_306 : decode cL_law 306 = .ok (.aload_n 0, 1) := by decide +kernel
theorem dL_law_307 : decode cL_law 307 = .ok (.iload 4, 2) := by decide +kernel
theorem dL_law_309 : decode cL_law 309 = .ok (.iconst 2, 1) := by decide +kernel
theorem dL_law_310 : decode cL_law 310 = .ok (.iadd, 1) := by decide +kernel
theorem dL_law_311 : decode cL_law 311 = .ok (.iaload, 1) := by decide +kernel
theorem dL_law_312 : decode cL_law 312 = .ok (.invokevirtual 105, 3) := by decide +kernel
theorem dL_law_315 : decode cL_law 315 = .ok (.istore 6, 2) := by decide +kernel
theorem dL_law_317 : decode cL_law 317 = .ok (.aload_n 2, 1) := by decide +kernel
theorem dL_law_318 : decode cL_law 318 = .ok (.invokevirtual 96, 3) := by decide +kernel
theorem dL_law_321 : decode cL_law 321 = .ok (.iload 5, 2) := by decide +kernel
theorem dL_law_323 : decode cL_law 323 = .ok (.if_icmp .eq 5, 3) := by decide +kernel
theorem dL_law_326 : decode cL_law 326 = .ok (.iconst 0, 1) := by decide +kernel
theorem dL_law_327 : decode cL_law 327 = .ok (.ireturn, 1) := by decide +kernel
theorem dL_law_328 : decode cL_law 328 = .ok (.iload 5, 2) := by decide +kernel
theorem dL_law_330 : decode cL_law 330 = .ok (.ifCond .ne 15, 3) := by decide +kernel
theorem dL_law_333 : decode cL_law 333 = .ok (.aload_n 3, 1) := by decide +kernel
theorem dL_law_334 : decode cL_law 334 = .ok (.iconst 0, 1) := by decide +kernel
theorem dL_law_335 : decode cL_law 335 = .ok (.laload, 1) := by decide +kernel
theorem dL_law_336 : decode cL_law 336 = .ok (.iload 6, 2) := by decide +kernel
theorem dL_law_338 : decode cL_law 338 = .ok (.i2l, 1) := by decide +kernel
theorem dL_law_339 : decode cL_law 339 = .ok (.lcmp, 1) := by decide +kernel
theorem dL_law_340 : decode cL_law 340 = .ok (.ifCond .eq 5, 3) := by decide +kernel
theorem dL_law_343 : decode cL_law 343 = .ok (.iconst 0, 1) := by decide +kernel
theorem dL_law_344 : decode cL_law 344 = .ok (.ireturn, 1) := by decide +kernel
theorem dL_law_345 : decode cL_law 345 = .ok (.goto 1332, 3) := by decide +kernel
theorem dL_law_348 : decode cL_law 348 = .ok (.aload_n 1, 1) := by decide +kernel
theorem dL_law_349 : decode cL_law 349 = .ok (.aload_n 0, 1) := by decide +kernel
theorem dL_law_350 : decode cL_law 350 = .ok (.iload 4, 2) := by decide +kernel
theorem dL_law_352 : decode cL_law 352 = .ok (.iconst 1, 1) := by decide +kernel
theorem dL_law_353 : decode cL_law 353 = .ok (.iadd, 1) := by decide +kernel
theorem dL_law_354 : decode cL_law 354 = .ok (.iaload, 1) := by decide +kernel
theorem dL_law_355 : decode cL_law 355 = .ok (.aload_n 0, 1) := by decide +kernel
theorem dL_law_356 : decode cL_law 356 = .ok (.iload 4, 2) := by decide +kernel
theorem dL_law_358 : decode cL_law 358 = .ok (.iconst 2, 1) := by decide +kernel
theorem dL_law_359 : decode cL_law 359 = .ok (.iadd, 1) := by decide +kernel
theorem dL_law_360 : decode cL_law 360 = .ok (.iaload, 1) := by decide +kernel
theorem dL_law_361 : decode cL_law 361 = .ok (.aload_n 3, 1) := by decide +kernel
theorem dL_law_362 : decode cL_law 362 = .ok (.invokestatic 106, 3) := by decide +kernel
theorem dL_law_365 : decode cL_law 365 = .ok (.istore 5, 2) := by decide +kernel
theorem dL_law_367 : decode cL_law 367 = .ok (.aload_n 2, 1) := by decide +kernel
theorem dL_law_368 : decode cL_law 368 = .ok (.aload_n 0, 1) := by decide +kernel
theorem dL_law_369 : decode cL_law 369 = .ok (.iload 4, 2) := by decide +kernel
theorem dL_law_371 : decode cL_law 371 = .ok (.iconst 1, 1) := by decide +kernel
theorem dL_law_372 : decode cL_law 372 = .ok (.iadd, 1) := by decide +kernel
theorem dL_law_373 : decode cL_law 373 = .ok (.iaload, 1) := by decide +kernel
theorem dL_law_374 : decode cL_law 374 = .ok (.aload_n 0, 1) := by decide +kernel
theorem dL_law_375 : decode cL_law 375 = .ok (.iload 4, 2) := by decide +kernel
theorem dL_law_377 : decode cL_law 377 = .ok (.iconst 2, 1) := by decide +kernel
theorem dL_law_378 : decode cL_law 378 = .ok (.iadd, 1) := by decide +kernel
theorem dL_law_379 : decode cL_law 379 = .ok (.iaload, 1) := by decide +kernel
theorem dL_law_380 : decode cL_law 380 = .ok (.invokevirtual 108, 3) := by decide +kernel
theorem dL_law_383 : decode cL_law 383 = .ok (.istore 6, 2) := by decide +kernel
theorem dL_law_385 : decode cL_law 385 = .ok (.aload_n 2, 1) := by decide +kernel
theorem dL_law_386 : decode cL_law 386 = .ok (.invokevirtual 96, 3) := by decide +kernel
theorem dL_law_389 : decode cL_law 389 = .ok (.iload 5, 2) := by decide +kernel
theorem dL_law_391 : decode cL_law 391 = .ok (.if_icmp .eq 5, 3) := by decide +kernel
theorem dL_law_394 : decode cL_law 394 = .ok (.iconst 0, 1) := by decide +kernel
theorem dL_law_395 : decode cL_law 395 = .ok (.ireturn, 1) := by decide +kernel
theorem dL_law_396 : decode cL_law 396 = .ok (.iload 5, 2) := by decide +kernel
theorem dL_law_398 : decode cL_law 398 = .ok (.ifCond .ne 15, 3) := by decide +kernel
theorem dL_law_401 : decode cL_law 401 = .ok (.aload_n 3, 1) := by decide +kernel
theorem dL_law_402 : decode cL_law 402 = .ok (.iconst 0, 1) := by decide +kernel
theorem dL_law_403 : decode cL_law 403 = .ok (.laload, 1) := by decide +kernel
theorem dL_law_404 : decode cL_law 404 = .ok (.iload 6, 2) := by decide +kernel
theorem dL_law_406 : decode cL_law 406 = .ok (.i2l, 1) := by decide +kernel
theorem dL_law_407 : decode cL_law 407 = .ok (.lcmp, 1) := by decide +kernel
theorem dL_law_408 : decode cL_law 408 = .ok (.ifCond .eq 5, 3) := by decide +kernel
theorem dL_law_411 : decode cL_law 411 = .ok (.iconst 0, 1) := by decide +kernel
theorem dL_law_412 : decode cL_law 412 = .ok (.ireturn, 1) := by decide +kernel
theorem dL_law_413 : decode cL_law 413 = .ok (.goto 1264, 3) := by decide +kernel
theorem dL_law_416 : decode cL_law 416 = .ok (.aload_n 1, 1) := by decide +kernel
theorem dL_law_417 : decode cL_law 417 = .ok (.aload_n 0, 1) := by decide +kernel
theorem dL_law_418 : decode cL_law 418 = .ok (.iload 4, 2) := by decide +kernel
theorem dL_law_420 : decode cL_law 420 = .ok (.iconst 1, 1) := by decide +kernel
theorem dL_law_421 : decode cL_law 421 = .ok (.iadd, 1) := by decide +kernel
theorem dL_law_422 : decode cL_law 422 = .ok (.iaload, 1) := by decide +kernel
theorem dL_law_423 : decode cL_law 423 = .ok (.aload_n 0, 1) := by decide +kernel
theorem dL_law_424 : decode cL_law 424 = .ok (.iload 4, 2) := by decide +kernel
theorem dL_law_426 : decode cL_law 426 = .ok (.iconst 2, 1) := by decide +kernel
theorem dL_law_427 : decode cL_law 427 = .ok (.iadd, 1) := by decide +kernel
theorem dL_law_428 : decode cL_law 428 = .ok (.iaload, 1) := by decide +kernel
theorem dL_law_429 : decode cL_law 429 = .ok (.aload_n 3, 1) := by decide +kernel
theorem dL_law_430 : decode cL_law 430 = .ok (.invokestatic 109, 3) := by decide +kernel
theorem dL_law_433 : decode cL_law 433 = .ok (.istore 5, 2) := by decide +kernel
theorem dL_law_435 : decode cL_law 435 = .ok (.aload_n 2, 1) := by decide +kernel
theorem dL_law_436 : decode cL_law 436 = .ok (.aload_n 0, 1) := by decide +kernel
theorem dL_law_437 : decode cL_law 437 = .ok (.iload 4, 2) := by decide +kernel
theorem dL_law_439 : decode cL_law 439 = .ok (.iconst 1, 1) := by decide +kernel
theorem dL_law_440 : decode cL_law 440 = .ok (.iadd, 1) := by decide +kernel
theorem dL_law_441 : decode cL_law 441 = .ok (.iaload, 1) := by decide +kernel
theorem dL_law_442 : decode cL_law 442 = .ok (.aload_n 0, 1) := by decide +kernel
theorem dL_law_443 : decode cL_law 443 = .ok (.iload 4, 2) := by decide +kernel
theorem dL_law_445 : decode cL_law 445 = .ok (.iconst 2, 1) := by decide +kernel
theorem dL_law_446 : decode cL_law 446 = .ok (.iadd, 1) := by decide +kernel
theorem dL_law_447 : decode cL_law 447 = .ok (.iaload, 1) := by decide +kernel
theorem dL_law_448 : decode cL_law 448 = .ok (.invokevirtual 111, 3) := by decide +kernel
theorem dL_law_451 : decode cL_law 451 = .ok (.istore 6, 2) := by decide +kernel
theorem dL_law_453 : decode cL_law 453 = .ok (.aload_n 2, 1) := by decide +kernel
theorem dL_law_454 : decode cL_law 454 = .ok (.invokevirtual 96, 3) := by decide +kernel
theorem dL_law_457 : decode cL_law 457 = .ok (.iload 5, 2) := by decide +kernel
theorem dL_law_459 : decode cL_law 459 = .ok (.if_icmp .eq 5, 3) := by decide +kernel
theorem dL_law_462 : decode cL_law 462 = .ok (.iconst 0, 1) := by decide +kernel
theorem dL_law_463 : decode cL_law 463 = .ok (.ireturn, 1) := by decide +kernel
theorem dL_law_464 : decode cL_law 464 = .ok (.iload 5, 2) := by decide +kernel
theorem dL_law_466 : decode cL_law 466 = .ok (.ifCond .ne 15, 3) := by decide +kernel
theorem dL_law_469 : decode cL_law 469 = .ok (.aload_n 3, 1) := by decide +kernel
theorem dL_law_470 : decode cL_law 470 = .ok (.iconst 0, 1) := by decide +kernel
theorem dL_law_471 : decode cL_law 471 = .ok (.laload, 1) := by decide +kernel
theorem dL_law_472 : decode cL_law 472 = .ok (.iload 6, 2) := by decide +kernel
theorem dL_law_474 : decode cL_law 474 = .ok (.i2l, 1) := by decide +kernel
theorem dL_law_475 : decode cL_law 475 = .ok (.lcmp, 1) := by decide +kernel
theorem dL_law_476 : decode cL_law 476 = .ok (.ifCond .eq 5, 3) := by decide +kernel
theorem dL_law_479 : decode cL_law 479 = .ok (.iconst 0, 1) := by decide +kernel
theorem dL_law_480 : decode cL_law 480 = .ok (.ireturn, 1) := by decide +kernel
theorem dL_law_481 : decode cL_law 481 = .ok (.goto 1196, 3) := by decide +kernel
theorem dL_law_484 : decode cL_law 484 = .ok (.aload_n 1, 1) := by decide +kernel
theorem dL_law_485 : decode cL_law 485 = .ok (.aload_n 0, 1) := by decide +kernel
theorem dL_law_486 : decode cL_law 486 = .ok (.iload 4, 2) := by decide +kernel
theorem dL_law_488 : decode cL_law 488 = .ok (.iconst 1, 1) := by decide +kernel
theorem dL_law_489 : decode cL_law 489 = .ok (.iadd, 1) := by decide +kernel
theorem dL_law_490 : decode cL_law 490 = .ok (.iaload, 1) := by decide +kernel
theorem dL_law_491 : decode cL_law 491 = .ok (.aload_n 3, 1) := by decide +kernel
theorem dL_law_492 : decode cL_law 492 = .ok (.invokestatic 112, 3) := by decide +kernel
theorem dL_law_495 : decode cL_law 495 = .ok (.istore 5, 2) := by decide +kernel
theorem dL_law_497 : decode cL_law 497 = .ok (.aload_n 2, 1) := by decide +kernel
theorem dL_law_498 : decode cL_law 498 = .ok (.aload_n 0, 1) := by decide +kernel
theorem dL_law_499 : decode cL_law 499 = .ok (.iload 4, 2) := by decide +kernel
theorem dL_law_501 : decode cL_law 501 = .ok (.iconst 1, 1) := by decide +kernel
theorem dL_law_502 : decode cL_law 502 = .ok (.iadd, 1) := by decide +kernel
theorem dL_law_503 : decode cL_law 503 = .ok (.iaload, 1) := by decide +kernel
theorem dL_law_504 : decode cL_law 504 = .ok (.invokevirtual 114, 3) := by decide +kernel
theorem dL_law_507 : decode cL_law 507 = .ok (.istore 6, 2) := by decide +kernel
theorem dL_law_509 : decode cL_law 509 = .ok (.aload_n 2, 1) := by decide +kernel
theorem dL_law_510 : decode cL_law 510 = .ok (.invokevirtual 96, 3) := by decide +kernel
theorem dL_law_513 : decode cL_law 513 = .ok (.iload 5, 2) := by decide +kernel
theorem dL_law_515 : decode cL_law 515 = .ok (.if_icmp .eq 5, 3) := by decide +kernel
theorem dL_law_518 : decode cL_law 518 = .ok (.iconst 0, 1) := by decide +kernel
theorem dL_law_519 : decode cL_law 519 = .ok (.ireturn, 1) := by decide +kernel
theorem dL_law_520 : decode cL_law 520 = .ok (.iload 5, 2) := by decide +kernel
theorem dL_law_522 : decode cL_law 522 = .ok (.ifCond .ne 15, 3) := by decide +kernel
theorem dL_law_525 : decode cL_law 525 = .ok (.aload_n 3, 1) := by decide +kernel
theorem dL_law_526 : decode cL_law 526 = .ok (.iconst 0, 1) := by decide +kernel
theorem dL_law_527 : decode cL_law 527 = .ok (.laload, 1) := by decide +kernel
theorem dL_law_528 : decode cL_law 528 = .ok (.iload 6, 2) := by decide +kernel
theorem dL_law_530 : decode cL_law 530 = .ok (.i2l, 1) := by decide +kernel
theorem dL_law_531 : decode cL_law 531 = .ok (.lcmp, 1) := by decide +kernel
theorem dL_law_532 : decode cL_law 532 = .ok (.ifCond .eq 5, 3) := by decide +kernel
theorem dL_law_535 : decode cL_law 535 = .ok (.iconst 0, 1) := by decide +kernel
theorem dL_law_536 : decode cL_law 536 = .ok (.ireturn, 1) := by decide +kernel
theorem dL_law_537 : decode cL_law 537 = .ok (.goto 1140, 3) := by decide +kernel
theorem dL_law_540 : decode cL_law 540 = .ok (.aload_n 1, 1) := by decide +kernel
theorem dL_law_541 : decode cL_law 541 = .ok (.aload_n 0, 1) := by decide +kernel
theorem dL_law_542 : decode cL_law 542 = .ok (.iload 4, 2) := by decide +kernel
theorem dL_law_544 : decode cL_law 544 = .ok (.iconst 1, 1) := by decide +kernel
theorem dL_law_545 : decode cL_law 545 = .ok (.iadd, 1) := by decide +kernel
theorem dL_law_546 : decode cL_law 546 = .ok (.iaload, 1) := by decide +kernel
theorem dL_law_547 : decode cL_law 547 = .ok (.aload_n 3, 1) := by decide +kernel
theorem dL_law_548 : decode cL_law 548 = .ok (.invokestatic 115, 3) := by decide +kernel
theorem dL_law_551 : decode cL_law 551 = .ok (.istore 5, 2) := by decide +kernel
theorem dL_law_553 : decode cL_law 553 = .ok (.aload_n 2, 1) := by decide +kernel
theorem dL_law_554 : decode cL_law 554 = .ok (.aload_n 0, 1) := by decide +kernel
theorem dL_law_555 : decode cL_law 555 = .ok (.iload 4, 2) := by decide +kernel
theorem dL_law_557 : decode cL_law 557 = .ok (.iconst 1, 1) := by decide +kernel
theorem dL_law_558 : decode cL_law 558 = .ok (.iadd, 1) := by decide +kernel
theorem dL_law_559 : decode cL_law 559 = .ok (.iaload, 1) := by decide +kernel
theorem dL_law_560 : decode cL_law 560 = .ok (.invokevirtual 117, 3) := by decide +kernel
theorem dL_law_563 : decode cL_law 563 = .ok (.istore 6, 2) := by decide +kernel
theorem dL_law_565 : decode cL_law 565 = .ok (.aload_n 2, 1) := by decide +kernel
theorem dL_law_566 : decode cL_law 566 = .ok (.invokevirtual 96, 3) := by decide +kernel
theorem dL_law_569 : decode cL_law 569 = .ok (.iload 5, 2) := by decide +kernel
theorem dL_law_571 : decode cL_law 571 = .ok (.if_icmp .eq 5, 3) := by decide +kernel
theorem dL_law_574 : decode cL_law 574 = .ok (.iconst 0, 1) := by decide +kernel
theorem dL_law_575 : decode cL_law 575 = .ok (.ireturn, 1) := by decide +kernel
theorem dL_law_576 : decode cL_law 576 = .ok (.iload 5, 2) := by decide +kernel
theorem dL_law_578 : decode cL_law 578 = .ok (.ifCond .ne 15, 3) := by decide +kernel
theorem dL_law_581 : decode cL_law 581 = .ok (.aload_n 3, 1) := by decide +kernel
theorem dL_law_582 : decode cL_law 582 = .ok (.iconst 0, 1) := by decide +kernel
theorem dL_law_583 : decode cL_law 583 = .ok (.laload, 1) := by decide +kernel
theorem dL_law_584 : decode cL_law 584 = .ok (.iload 6, 2) := by decide +kernel
theorem dL_law_586 : decode cL_law 586 = .ok (.i2l, 1) := by decide +kernel
theorem dL_law_587 : decode cL_law 587 = .ok (.lcmp, 1) := by decide +kernel
theorem dL_law_588 : decode cL_law 588 = .ok (.ifCond .eq 5, 3) := by decide +kernel
theorem dL_law_591 : decode cL_law 591 = .ok (.iconst 0, 1) := by decide +kernel
theorem dL_law_592 : decode cL_law 592 = .ok (.ireturn, 1) := by decide +kernel
theorem dL_law_593 : decode cL_law 593 = .ok (.goto 1084, 3) := by decide +kernel
theorem dL_law_596 : decode cL_law 596 = .ok (.aload_n 1, 1) := by decide +kernel
theorem dL_law_597 : decode cL_law 597 = .ok (.aload_n 0, 1) := by decide +kernel
theorem dL_law_598 : decode cL_law 598 = .ok (.iload 4, 2) := by decide +kernel
theorem dL_law_600 : decode cL_law 600 = .ok (.iconst 1, 1) := by decide +kernel
theorem dL_law_601 : decode cL_law 601 = .ok (.iadd, 1) := by decide +kernel
theorem dL_law_602 : decode cL_law 602 = .ok (.iaload, 1) := by decide +kernel
theorem dL_law_603 : decode cL_law 603 = .ok (.aload_n 0, 1) := by decide +kernel
theorem dL_law_604 : decode cL_law 604 = .ok (.iload 4, 2) := by decide +kernel
theorem dL_law_606 : decode cL_law 606 = .ok (.iconst 2, 1) := by decide +kernel
theorem dL_law_607 : decode cL_law 607 = .ok (.iadd, 1) := by decide +kernel
theorem dL_law_608 : decode cL_law 608 = .ok (.iaload, 1) := by decide +kernel
theorem dL_law_609 : decode cL_law 609 = .ok (.aload_n 3, 1) := by decide +kernel
theorem dL_law_610 : decode cL_law 610 = .ok (.invokestatic 118, 3) := by decide +kernel
theorem dL_law_613 : decode cL_law 613 = .ok (.istore 5, 2) := by decide +kernel
theorem dL_law_615 : decode cL_law 615 = .ok (.aload_n 2, 1) := by decide +kernel
theorem dL_law_616 : decode cL_law 616 = .ok (.aload_n 0, 1) := by decide +kernel
theorem dL_law_617 : decode cL_law 617 = .ok (.iload 4, 2) := by decide +kernel
theorem dL_law_619 : decode cL_law 619 = .ok (.iconst 1, 1) := by decide +kernel
theorem dL_law_620 : decode cL_law 620 = .ok (.iadd, 1) := by decide +kernel
theorem dL_law_621 : decode cL_law 621 = .ok (.iaload, 1) := by decide +kernel
theorem dL_law_622 : decode cL_law 622 = .ok (.aload_n 0, 1) := by decide +kernel
theorem dL_law_623 : decode cL_law 623 = .ok (.iload 4, 2) := by decide +kernel
theorem dL_law_625 : decode cL_law 625 = .ok (.iconst 2, 1) := by decide +kernel
theorem dL_law_626 : decode cL_law 626 = .ok (.iadd, 1) := by decide +kernel
theorem dL_law_627 : decode cL_law 627 = .ok (.iaload, 1) := by decide +kernel
theorem dL_law_628 : decode cL_law 628 = .ok (.invokevirtual 120, 3) := by decide +kernel
theorem dL_law_631 : decode cL_law 631 = .ok (.istore 6, 2) := by decide +kernel
theorem dL_law_633 : decode cL_law 633 = .ok (.aload_n 2, 1) := by decide +kernel
theorem dL_law_634 : decode cL_law 634 = .ok (.invokevirtual 96, 3) := by decide +kernel
theorem dL_law_637 : decode cL_law 637 = .ok (.iload 5, 2) := by decide +kernel
theorem dL_law_639 : decode cL_law 639 = .ok (.if_icmp .eq 5, 3) := by decide +kernel
theorem dL_law_642 : decode cL_law 642 = .ok (.iconst 0, 1) := by decide +kernel
theorem dL_law_643 : decode cL_law 643 = .ok (.ireturn, 1) := by decide +kernel
theorem dL_law_644 : decode cL_law 644 = .ok (.iload 5, 2) := by decide +kernel
theorem dL_law_646 : decode cL_law 646 = .ok (.ifCond .ne 15, 3) := by decide +kernel
theorem dL_law_649 : decode cL_law 649 = .ok (.aload_n 3, 1) := by decide +kernel
theorem dL_law_650 : decode cL_law 650 = .ok (.iconst 0, 1) := by decide +kernel
theorem dL_law_651 : decode cL_law 651 = .ok (.laload, 1) := by decide +kernel
theorem dL_law_652 : decode cL_law 652 = .ok (.iload 6, 2) := by decide +kernel
theorem dL_law_654 : decode cL_law 654 = .ok (.i2l, 1) := by decide +kernel
theorem dL_law_655 : decode cL_law 655 = .ok (.lcmp, 1) := by decide +kernel
theorem dL_law_656 : decode cL_law 656 = .ok (.ifCond .eq 5, 3) := by decide +kernel
theorem dL_law_659 : decode cL_law 659 = .ok (.iconst 0, 1) := by decide +kernel
theorem dL_law_660 : decode cL_law 660 = .ok (.ireturn, 1) := by decide +kernel
theorem dL_law_661 : decode cL_law 661 = .ok (.goto 1016, 3) := by decide +kernel
theorem dL_law_664 : decode cL_law 664 = .ok (.aload_n 1, 1) := by decide +kernel
theorem dL_law_665 : decode cL_law 665 = .ok (.aload_n 0, 1) := by decide +kernel
theorem dL_law_666 : decode cL_law 666 = .ok (.iload 4, 2) := by decide +kernel
theorem dL_law_668 : decode cL_law 668 = .ok (.iconst 1, 1) := by decide +kernel
theorem dL_law_669 : decode cL_law 669 = .ok (.iadd, 1) := by decide +kernel
theorem dL_law_670 : decode cL_law 670 = .ok (.iaload, 1) := by decide +kernel
theorem dL_law_671 : decode cL_law 671 = .ok (.aload_n 3, 1) := by decide +kernel
theorem dL_law_672 : decode cL_law 672 = .ok (.invokestatic 121, 3) := by decide +kernel
theorem dL_law_675 : decode cL_law 675 = .ok (.istore 5, 2) := by decide +kernel
theorem dL_law_677 : decode cL_law 677 = .ok (.aload_n 2, 1) := by decide +kernel
theorem dL_law_678 : decode cL_law 678 = .ok (.aload_n 0, 1) := by decide +kernel
theorem dL_law_679 : decode cL_law 679 = .ok (.iload 4, 2) := by decide +kernel
theorem dL_law_681 : decode cL_law 681 = .ok (.iconst 1, 1) := by decide +kernel
theorem dL_law_682 : decode cL_law 682 = .ok (.iadd, 1) := by decide +kernel
theorem dL_law_683 : decode cL_law 683 = .ok (.iaload, 1) := by decide +kernel
theorem dL_law_684 : decode cL_law 684 = .ok (.invokevirtual 123, 3) := by decide +kernel
theorem dL_law_687 : decode cL_law 687 = .ok (.istore 6, 2) := by decide +kernel
theorem dL_law_689 : decode cL_law 689 = .ok (.aload_n 2, 1) := by decide +kernel
theorem dL_law_690 : decode cL_law 690 = .ok (.invokevirtual 96, 3) := by decide +kernel
theorem dL_law_693 : decode cL_law 693 = .ok (.iload 5, 2) := by decide +kernel
theorem dL_law_695 : decode cL_law 695 = .ok (.if_icmp .eq 5, 3) := by decide +kernel
theorem dL_law_698 : decode cL_law 698 = .ok (.iconst 0, 1) := by decide +kernel
theorem dL_law_699 : decode cL_law 699 = .ok (.ireturn, 1) := by decide +kernel
theorem dL_law_700 : decode cL_law 700 = .ok (.iload 5, 2) := by decide +kernel
theorem dL_law_702 : decode cL_law 702 = .ok (.ifCond .ne 15, 3) := by decide +kernel
theorem dL_law_705 : decode cL_law 705 = .ok (.aload_n 3, 1) := by decide +kernel
theorem dL_law_706 : decode cL_law 706 = .ok (.iconst 0, 1) := by decide +kernel
theorem dL_law_707 : decode cL_law 707 = .ok (.laload, 1) := by decide +kernel
theorem dL_law_708 : decode cL_law 708 = .ok (.iload 6, 2) := by decide +kernel
theorem dL_law_710 : decode cL_law 710 = .ok (.i2l, 1) := by decide +kernel
theorem dL_law_711 : decode cL_law 711 = .ok (.lcmp, 1) := by decide +kernel
theorem dL_law_712 : decode cL_law 712 = .ok (.ifCond .eq 5, 3) := by decide +kernel
theorem dL_law_715 : decode cL_law 715 = .ok (.iconst 0, 1) := by decide +kernel
theorem dL_law_716 : decode cL_law 716 = .ok (.ireturn, 1) := by decide +kernel
theorem dL_law_717 : decode cL_law 717 = .ok (.goto 960, 3) := by decide +kernel
theorem dL_law_720 : decode cL_law 720 = .ok (.aload_n 1, 1) := by decide +kernel
theorem dL_law_721 : decode cL_law 721 = .ok (.invokevirtual 124, 3) := by decide +kernel
theorem dL_law_724 : decode cL_law 724 = .ok (.aload_n 2, 1) := by decide +kernel
theorem dL_law_725 : decode cL_law 725 = .ok (.invokevirtual 127, 3) := by decide +kernel
theorem dL_law_728 : decode cL_law 728 = .ok (.if_icmp .eq 949, 3) := by decide +kernel
theorem dL_law_731 : decode cL_law 731 = .ok (.iconst 0, 1) := by decide +kernel
theorem dL_law_732 : decode cL_law 732 = .ok (.ireturn, 1) := by decide +kernel
theorem dL_law_733 : decode cL_law 733 = .ok (.aload_n 1, 1) := by decide +kernel
theorem dL_law_734 : decode cL_law 734 = .ok (.invokevirtual 128, 3) := by decide +kernel
theorem dL_law_737 : decode cL_law 737 = .ok (.aload_n 2, 1) := by decide +kernel
theorem dL_law_738 : decode cL_law 738 = .ok (.invokevirtual 131, 3) := by decide +kernel
theorem dL_law_741 : decode cL_law 741 = .ok (.if_icmp .eq 936, 3) := by decide +kernel
theorem dL_law_744 : decode cL_law 744 = .ok (.iconst 0, 1) := by decide +kernel
theorem dL_law_745 : decode cL_law 745 = .ok (.ireturn, 1) := by decide +kernel
theorem dL_law_746 : decode cL_law 746 = .ok (.aload_n 1, 1) := by decide +kernel
theorem dL_law_747 : decode cL_law 747 = .ok (.aload_n 3, 1) := by decide +kernel
theorem dL_law_748 : decode cL_law 748 = .ok (.invokestatic 132, 3) := by decide +kernel
theorem dL_law_751 : decode cL_law 751 = .ok (.istore 5, 2) := by decide +kernel
theorem dL_law_753 : decode cL_law 753 = .ok (.aload_n 2, 1) := by decide +kernel
theorem dL_law_754 : decode cL_law 754 = .ok (.invokevirtual 135, 3) := by decide +kernel
theorem dL_law_757 : decode cL_law 757 = .ok (.istore 6, 2) := by decide +kernel
theorem dL_law_759 : decode cL_law 759 = .ok (.aload_n 2, 1) := by decide +kernel
theorem dL_law_760 : decode cL_law 760 = .ok (.invokevirtual 96, 3) := by decide +kernel
theorem dL_law_763 : decode cL_law 763 = .ok (.iload 5, 2) := by decide +kernel
theorem dL_law_765 : decode cL_law 765 = .ok (.if_icmp .eq 5, 3) := by decide +kernel
theorem dL_law_768 : decode cL_law 768 = .ok (.iconst 0, 1) := by decide +kernel
theorem dL_law_769 : decode cL_law 769 = .ok (.ireturn, 1) := by decide +kernel
theorem dL_law_770 : decode cL_law 770 = .ok (.iload 5, 2) := by decide +kernel
theorem dL_law_772 : decode cL_law 772 = .ok (.ifCond .ne 15, 3) := by decide +kernel
theorem dL_law_775 : decode cL_law 775 = .ok (.aload_n 3, 1) := by decide +kernel
theorem dL_law_776 : decode cL_law 776 = .ok (.iconst 0, 1) := by decide +kernel
theorem dL_law_777 : decode cL_law 777 = .ok (.laload, 1) := by decide +kernel
theorem dL_law_778 : decode cL_law 778 = .ok (.iload 6, 2) := by decide +kernel
theorem dL_law_780 : decode cL_law 780 = .ok (.i2l, 1) := by decide +kernel
theorem dL_law_781 : decode cL_law 781 = .ok (.lcmp, 1) := by decide +kernel
theorem dL_law_782 : decode cL_law 782 = .ok (.ifCond .eq 5, 3) := by decide +kernel
theorem dL_law_785 : decode cL_law 785 = .ok (.iconst 0, 1) := by decide +kernel
theorem dL_law_786 : decode cL_law 786 = .ok (.ireturn, 1) := by decide +kernel
theorem dL_law_787 : decode cL_law 787 = .ok (.goto 890, 3) := by decide +kernel
theorem dL_law_790 : decode cL_law 790 = .ok (.aload_n 1, 1) := by decide +kernel
theorem dL_law_791 : decode cL_law 791 = .ok (.aload_n 3, 1) := by decide +kernel
theorem dL_law_792 : decode cL_law 792 = .ok (.invokestatic 136, 3) := by decide +kernel
theorem dL_law_795 : decode cL_law 795 = .ok (.istore 5, 2) := by decide +kernel
theorem dL_law_797 : decode cL_law 797 = .ok (.aload_n 2, 1) := by decide +kernel
theorem dL_law_798 : decode cL_law 798 = .ok (.invokevirtual 138, 3) := by decide +kernel
theorem dL_law_801 : decode cL_law 801 = .ok (.istore 6, 2) := by decide +kernel
theorem dL_law_803 : decode cL_law 803 = .ok (.aload_n 2, 1) := by decide +kernel
theorem dL_law_804 : decode cL_law 804 = .ok (.invokevirtual 96, 3) := by decide +kernel
theorem dL_law_807 : decode cL_law 807 = .ok (.iload 5, 2) := by decide +kernel
theorem dL_law_809 : decode cL_law 809 = .ok (.if_icmp .eq 5, 3) := by decide +kernel
theorem dL_law_812 : decode cL_law 812 = .ok (.iconst 0, 1) := by decide +kernel
theorem dL_law_813 : decode cL_law 813 = .ok (.ireturn, 1) := by decide +kernel
theorem dL_law_814 : decode cL_law 814 = .ok (.iload 5, 2) := by decide +kernel
theorem dL_law_816 : decode cL_law 816 = .ok (.ifCond .ne 15, 3) := by decide +kernel
theorem dL_law_819 : decode cL_law 819 = .ok (.aload_n 3, 1) := by decide +kernel
theorem dL_law_820 : decode cL_law 820 = .ok (.iconst 0, 1) := by decide +kernel
theorem dL_law_821 : decode cL_law 821 = .ok (.laload, 1) := by decide +kernel
theorem dL_law_822 : decode cL_law 822 = .ok (.iload 6, 2) := by decide +kernel
theorem dL_law_824 : decode cL_law 824 = .ok (.i2l, 1) := by decide +kernel
theorem dL_law_825 : decode cL_law 825 = .ok (.lcmp, 1) := by decide +kernel
theorem dL_law_826 : decode cL_law 826 = .ok (.ifCond .eq 5, 3) := by decide +kernel
theorem dL_law_829 : decode cL_law 829 = .ok (.iconst 0, 1) := by decide +kernel
theorem dL_law_830 : decode cL_law 830 = .ok (.ireturn, 1) := by decide +kernel
theorem dL_law_831 : decode cL_law 831 = .ok (.goto 846, 3) := by decide +kernel
theorem dL_law_834 : decode cL_law 834 = .ok (.aload_n 1, 1) := by decide +kernel
theorem dL_law_835 : decode cL_law 835 = .ok (.aload_n 0, 1) := by decide +kernel
theorem dL_law_836 : decode cL_law 836 = .ok (.iload 4, 2) := by decide +kernel
theorem dL_law_838 : decode cL_law 838 = .ok (.iconst 1, 1) := by decide +kernel
theorem dL_law_839 : decode cL_law 839 = .ok (.iadd, 1) := by decide +kernel
theorem dL_law_840 : decode cL_law 840 = .ok (.iaload, 1) := by decide +kernel
theorem dL_law_841 : decode cL_law 841 = .ok (.aload_n 0, 1) := by decide +kernel
theorem dL_law_842 : decode cL_law 842 = .ok (.iload 4, 2) := by decide +kernel
theorem dL_law_844 : decode cL_law 844 = .ok (.iconst 2, 1) := by decide +kernel
theorem dL_law_845 : decode cL_law 845 = .ok (.iadd, 1) := by decide +kernel
theorem dL_law_846 : decode cL_law 846 = .ok (.iaload, 1) := by decide +kernel
theorem dL_law_847 : decode cL_law 847 = .ok (.aload_n 3, 1) := by decide +kernel
theorem dL_law_848 : decode cL_law 848 = .ok (.invokestatic 139, 3) := by decide +kernel
theorem dL_law_851 : decode cL_law 851 = .ok (.istore 5, 2) := by decide +kernel
theorem dL_law_853 : decode cL_law 853 = .ok (.aload_n 2, 1) := by decide +kernel
theorem dL_law_854 : decode cL_law 854 = .ok (.aload_n 0, 1) := by decide +kernel
theorem dL_law_855 : decode cL_law 855 = .ok (.iload 4, 2) := by decide +kernel
theorem dL_law_857 : decode cL_law 857 = .ok (.iconst 1, 1) := by decide +kernel
theorem dL_law_858 : decode cL_law 858 = .ok (.iadd, 1) := by decide +kernel
theorem dL_law_859 : decode cL_law 859 = .ok (.iaload, 1) := by decide +kernel
theorem dL_law_860 : decode cL_law 860 = .ok (.aload_n 0, 1) := by decide +kernel
theorem dL_law_861 : decode cL_law 861 = .ok (.iload 4, 2) := by decide +kernel
theorem dL_law_863 : decode cL_law 863 = .ok (.iconst 2, 1) := by decide +kernel
theorem dL_law_864 : decode cL_law 864 = .ok (.iadd, 1) := by decide +kernel
theorem dL_law_865 : decode cL_law 865 = .ok (.iaload, 1) := by decide +kernel
theorem dL_law_866 : decode cL_law 866 = .ok (.invokevirtual 141, 3) := by decide +kernel
theorem dL_law_869 : decode cL_law 869 = .ok (.istore 6, 2) := by decide +kernel
theorem dL_law_871 : decode cL_law 871 = .ok (.aload_n 2, 1) := by decide +kernel
theorem dL_law_872 : decode cL_law 872 = .ok (.invokevirtual 96, 3) := by decide +kernel
theorem dL_law_875 : decode cL_law 875 = .ok (.iload 5, 2) := by decide +kernel
theorem dL_law_877 : decode cL_law 877 = .ok (.if_icmp .eq 5, 3) := by decide +kernel
theorem dL_law_880 : decode cL_law 880 = .ok (.iconst 0, 1) := by decide +kernel
theorem dL_law_881 : decode cL_law 881 = .ok (.ireturn, 1) := by decide +kernel
theorem dL_law_882 : decode cL_law 882 = .ok (.iload 5, 2) := by decide +kernel
theorem dL_law_884 : decode cL_law 884 = .ok (.ifCond .ne 15, 3) := by decide +kernel
theorem dL_law_887 : decode cL_law 887 = .ok (.aload_n 3, 1) := by decide +kernel
theorem dL_law_888 : decode cL_law 888 = .ok (.iconst 0, 1) := by decide +kernel
theorem dL_law_889 : decode cL_law 889 = .ok (.laload, 1) := by decide +kernel
theorem dL_law_890 : decode cL_law 890 = .ok (.iload 6, 2) := by decide +kernel
theorem dL_law_892 : decode cL_law 892 = .ok (.i2l, 1) := by decide +kernel
theorem dL_law_893 : decode cL_law 893 = .ok (.lcmp, 1) := by decide +kernel
theorem dL_law_894 : decode cL_law 894 = .ok (.ifCond .eq 5, 3) := by decide +kernel
theorem dL_law_897 : decode cL_law 897 = .ok (.iconst 0, 1) := by decide +kernel
theorem dL_law_898 : decode cL_law 898 = .ok (.ireturn, 1) := by decide +kernel
theorem dL_law_899 : decode cL_law 899 = .ok (.goto 778, 3) := by decide +kernel
theorem dL_law_902 : decode cL_law 902 = .ok (.aload_n 1, 1) := by decide +kernel
theorem dL_law_903 : decode cL_law 903 = .ok (.aload_n 0, 1) := by decide +kernel
theorem dL_law_904 : decode cL_law 904 = .ok (.iload 4, 2) := by decide +kernel
theorem dL_law_906 : decode cL_law 906 = .ok (.iconst 1, 1) := by decide +kernel
theorem dL_law_907 : decode cL_law 907 = .ok (.iadd, 1) := by decide +kernel
theorem dL_law_908 : decode cL_law 908 = .ok (.iaload, 1) := by decide +kernel
theorem dL_law_909 : decode cL_law 909 = .ok (.aload_n 0, 1) := by decide +kernel
theorem dL_law_910 : decode cL_law 910 = .ok (.iload 4, 2) := by decide +kernel
theorem dL_law_912 : decode cL_law 912 = .ok (.iconst 2, 1) := by decide +kernel
theorem dL_law_913 : decode cL_law 913 = .ok (.iadd, 1) := by decide +kernel
theorem dL_law_914 : decode cL_law 914 = .ok (.iaload, 1) := by decide +kernel
theorem dL_law_915 : decode cL_law 915 = .ok (.aload_n 3, 1) := by decide +kernel
theorem dL_law_916 : decode cL_law 916 = .ok (.invokestatic 142, 3) := by decide +kernel
theorem dL_law_919 : decode cL_law 919 = .ok (.istore 5, 2) := by decide +kernel
theorem dL_law_921 : decode cL_law 921 = .ok (.aload_n 2, 1) := by decide +kernel
theorem dL_law_922 : decode cL_law 922 = .ok (.aload_n 0, 1) := by decide +kernel
theorem dL_law_923 : decode cL_law 923 = .ok (.iload 4, 2) := by decide +kernel
theorem dL_law_925 : decode cL_law 925 = .ok (.iconst 1, 1) := by decide +kernel
theorem dL_law_926 : decode cL_law 926 = .ok (.iadd, 1) := by decide +kernel
theorem dL_law_927 : decode cL_law 927 = .ok (.iaload, 1) := by decide +kernel
theorem dL_law_928 : decode cL_law 928 = .ok (.aload_n 0, 1) := by decide +kernel
theorem dL_law_929 : decode cL_law 929 = .ok (.iload 4, 2) := by decide +kernel
theorem dL_law_931 : decode cL_law 931 = .ok (.iconst 2, 1) := by decide +kernel
theorem dL_law_932 : decode cL_law 932 = .ok (.iadd, 1) := by decide +kernel
theorem dL_law_933 : decode cL_law 933 = .ok (.iaload, 1) := by decide +kernel
theorem dL_law_934 : decode cL_law 934 = .ok (.invokevirtual 144, 3) := by decide +kernel
theorem dL_law_937 : decode cL_law 937 = .ok (.istore 6, 2) := by decide +kernel
theorem dL_law_939 : decode cL_law 939 = .ok (.aload_n 2, 1) := by decide +kernel
theorem dL_law_940 : decode cL_law 940 = .ok (.invokevirtual 96, 3) := by decide +kernel
theorem dL_law_943 : decode cL_law 943 = .ok (.iload 5, 2) := by decide +kernel
theorem dL_law_945 : decode cL_law 945 = .ok (.if_icmp .eq 5, 3) := by decide +kernel
theorem dL_law_948 : decode cL_law 948 = .ok (.iconst 0, 1) := by decide +kernel
theorem dL_law_949 : decode cL_law 949 = .ok (.ireturn, 1) := by decide +kernel
theorem dL_law_950 : decode cL_law 950 = .ok (.iload 5, 2) := by decide +kernel
theorem dL_law_952 : decode cL_law 952 = .ok (.ifCond .ne 15, 3) := by decide +kernel
theorem dL_law_955 : decode cL_law 955 = .ok (.aload_n 3, 1) := by decide +kernel
theorem dL_law_956 : decode cL_law 956 = .ok (.iconst 0, 1) := by decide +kernel
theorem dL_law_957 : decode cL_law 957 = .ok (.laload, 1) := by decide +kernel
theorem dL_law_958 : decode cL_law 958 = .ok (.iload 6, 2) := by decide +kernel
theorem dL_law_960 : decode cL_law 960 = .ok (.i2l, 1) := by decide +kernel
theorem dL_law_961 : decode cL_law 961 = .ok (.lcmp, 1) := by decide +kernel
theorem dL_law_962 : decode cL_law 962 = .ok (.ifCond .eq 5, 3) := by decide +kernel
theorem dL_law_965 : decode cL_law 965 = .ok (.iconst 0, 1) := by decide +kernel
theorem dL_law_966 : decode cL_law 966 = .ok (.ireturn, 1) := by decide +kernel
theorem dL_law_967 : decode cL_law 967 = .ok (.goto 710, 3) := by decide +kernel
theorem dL_law_970 : decode cL_law 970 = .ok (.aload_n 1, 1) := by decide +kernel
theorem dL_law_971 : decode cL_law 971 = .ok (.aload_n 0, 1) := by decide +kernel
theorem dL_law_972 : decode cL_law 972 = .ok (.iload 4, 2) := by decide +kernel
theorem dL_law_974 : decode cL_law 974 = .ok (.iconst 1, 1) := by decide +kernel
theorem dL_law_975 : decode cL_law 975 = .ok (.iadd, 1) := by decide +kernel
theorem dL_law_976 : decode cL_law 976 = .ok (.iaload, 1) := by decide +kernel
theorem dL_law_977 : decode cL_law 977 = .ok (.aload_n 3, 1) := by decide +kernel
theorem dL_law_978 : decode cL_law 978 = .ok (.invokestatic 145, 3) := by decide +kernel
theorem dL_law_981 : decode cL_law 981 = .ok (.istore 5, 2) := by decide +kernel
theorem dL_law_983 : decode cL_law 983 = .ok (.aload_n 2, 1) := by decide +kernel
theorem dL_law_984 : decode cL_law 984 = .ok (.aload_n 0, 1) := by decide +kernel
theorem dL_law_985 : decode cL_law 985 = .ok (.iload 4, 2) := by decide +kernel
theorem dL_law_987 : decode cL_law 987 = .ok (.iconst 1, 1) := by decide +kernel
theorem dL_law_988 : decode cL_law 988 = .ok (.iadd, 1) := by decide +kernel
theorem dL_law_989 : decode cL_law 989 = .ok (.iaload, 1) := by decide +kernel
theorem dL_law_990 : decode cL_law 990 = .ok (.invokevirtual 147, 3) := by decide +kernel
theorem dL_law_993 : decode cL_law 993 = .ok (.istore 6, 2) := by decide +kernel
theorem dL_law_995 : decode cL_law 995 = .ok (.aload_n 2, 1) := by decide +kernel
theorem dL_law_996 : decode cL_law 996 = .ok (.invokevirtual 96, 3) := by decide +kernel
theorem dL_law_999 : decode cL_law 999 = .ok (.iload 5, 2) := by decide +kernel
theorem dL_law_1001 : decode cL_law 1001 = .ok (.if_icmp .eq 5, 3) := by decide +kernel
theorem dL_law_1004 : decode cL_law 1004 = .ok (.iconst 0, 1) := by decide +kernel
theorem dL_law_1005 : decode cL_law 1005 = .ok (.ireturn, 1) := by decide +kernel
theorem dL_law_1006 : decode cL_law 1006 = .ok (.iload 5, 2) := by decide +kernel
theorem dL_law_1008 : decode cL_law 1008 = .ok (.ifCond .ne 15, 3) := by decide +kernel
theorem dL_law_1011 : decode cL_law 1011 = .ok (.aload_n 3, 1) := by decide +kernel
theorem dL_law_1012 : decode cL_law 1012 = .ok (.iconst 0, 1) := by decide +kernel
theorem dL_law_1013 : decode cL_law 1013 = .ok (.laload, 1) := by decide +kernel
theorem dL_law_1014 : decode cL_law 1014 = .ok (.iload 6, 2) := by decide +kernel
theorem dL_law_1016 : decode cL_law 1016 = .ok (.i2l, 1) := by decide +kernel
theorem dL_law_1017 : decode cL_law 1017 = .ok (.lcmp, 1) := by decide +kernel
theorem dL_law_1018 : decode cL_law 1018 = .ok (.ifCond .eq 5, 3) := by decide +kernel
theorem dL_law_1021 : decode cL_law 1021 = .ok (.iconst 0, 1) := by decide +kernel
theorem dL_law_1022 : decode cL_law 1022 = .ok (.ireturn, 1) := by decide +kernel
theorem dL_law_1023 : decode cL_law 1023 = .ok (.goto 654, 3) := by decide +kernel
theorem dL_law_1026 : decode cL_law 1026 = .ok (.aload_n 1, 1) := by decide +kernel
theorem dL_law_1027 : decode cL_law 1027 = .ok (.aload_n 0, 1) := by decide +kernel
theorem dL_law_1028 : decode cL_law 1028 = .ok (.iload 4, 2) := by decide +kernel
theorem dL_law_1030 : decode cL_law 1030 = .ok (.iconst 1, 1) := by decide +kernel
theorem dL_law_1031 : decode cL_law 1031 = .ok (.iadd, 1) := by decide +kernel
theorem dL_law_1032 : decode cL_law 1032 = .ok (.iaload, 1) := by decide +kernel
theorem dL_law_1033 : decode cL_law 1033 = .ok (.aload_n 3, 1) := by decide +kernel
theorem dL_law_1034 : decode cL_law 1034 = .ok (.invokestatic 148, 3) := by decide +kernel
theorem dL_law_1037 : decode cL_law 1037 = .ok (.istore 5, 2) := by decide +kernel
theorem dL_law_1039 : decode cL_law 1039 = .ok (.aload_n 2, 1) := by decide +kernel
theorem dL_law_1040 : decode cL_law 1040 = .ok (.aload_n 0, 1) := by decide +kernel
theorem dL_law_1041 : decode cL_law 1041 = .ok (.iload 4, 2) := by decide +kernel
theorem dL_law_1043 : decode cL_law 1043 = .ok (.iconst 1, 1) := by decide +kernel
theorem dL_law_1044 : decode cL_law 1044 = .ok (.iadd, 1) := by decide +kernel
theorem dL_law_1045 : decode cL_law 1045 = .ok (.iaload, 1) := by decide +kernel
theorem dL_law_1046 : decode cL_law 1046 = .ok (.invokevirtual 150, 3) := by decide +kernel
theorem dL_law_1049 : decode cL_law 1049 = .ok (.istore 6, 2) := by decide +kernel
theorem dL_law_1051 : decode cL_law 1051 = .ok (.aload_n 2, 1) := by decide +kernel
theorem dL_law_1052 : decode cL_law 1052 = .ok (.invokevirtual 96, 3) := by decide +kernel
theorem dL_law_1055 : decode cL_law 1055 = .ok (.iload 5, 2) := by decide +kernel
theorem dL_law_1057 : decode cL_law 1057 = .ok (.if_icmp .eq 5, 3) := by decide +kernel
theorem dL_law_1060 : decode cL_law 1060 = .ok (.iconst 0, 1) := by decide +kernel
theorem dL_law_1061 : decode cL_law 1061 = .ok (.ireturn, 1) := by decide +kernel
theorem dL_law_1062 : decode cL_law 1062 = .ok (.iload 5, 2) := by decide +kernel
theorem dL_law_1064 : decode cL_law 1064 = .ok (.ifCond .ne 15, 3) := by decide +kernel
theorem dL_law_1067 : decode cL_law 1067 = .ok (.aload_n 3, 1) := by decide +kernel
theorem dL_law_1068 : decode cL_law 1068 = .ok (.iconst 0, 1) := by decide +kernel
theorem dL_law_1069 : decode cL_law 1069 = .ok (.laload, 1) := by decide +kernel
theorem dL_law_1070 : decode cL_law 1070 = .ok (.iload 6, 2) := by decide +kernel
theorem dL_law_1072 : decode cL_law 1072 = .ok (.i2l, 1) := by decide +kernel
theorem dL_law_1073 : decode cL_law 1073 = .ok (.lcmp, 1) := by decide +kernel
theorem dL_law_1074 : decode cL_law 1074 = .ok (.ifCond .eq 5, 3) := by decide +kernel
theorem dL_law_1077 : decode cL_law 1077 = .ok (.iconst 0, 1) := by decide +kernel
theorem dL_law_1078 : decode cL_law 1078 = .ok (.ireturn, 1) := by decide +kernel
theorem dL_law_1079 : decode cL_law 1079 = .ok (.goto 598, 3) := by decide +kernel
theorem dL_law_1082 : decode cL_law 1082 = .ok (.aload_n 1, 1) := by decide +kernel
theorem dL_law_1083 : decode cL_law 1083 = .ok (.aload_n 0, 1) := by decide +kernel
theorem dL_law_1084 : decode cL_law 1084 = .ok (.iload 4, 2) := by decide +kernel
theorem dL_law_1086 : decode cL_law 1086 = .ok (.iconst 1, 1) := by decide +kernel
theorem dL_law_1087 : decode cL_law 1087 = .ok (.iadd, 1) := by decide +kernel
theorem dL_law_1088 : decode cL_law 1088 = .ok (.iaload, 1) := by decide +kernel
theorem dL_law_1089 : decode cL_law 1089 = .ok (.aload_n 0, 1) := by decide +kernel
theorem dL_law_1090 : decode cL_law 1090 = .ok (.iload 4, 2) := by decide +kernel
theorem dL_law_1092 : decode cL_law 1092 = .ok (.iconst 2, 1) := by decide +kernel
theorem dL_law_1093 : decode cL_law 1093 = .ok (.iadd, 1) := by decide +kernel
theorem dL_law_1094 : decode cL_law 1094 = .ok (.iaload, 1) := by decide +kernel
theorem dL_law_1095 : decode cL_law 1095 = .ok (.ifCond .eq 7, 3) := by decide +kernel
theorem dL_law_1098 : decode cL_law 1098 = .ok (.iconst 1, 1) := by decide +kernel
theorem dL_law_1099 : decode cL_law 1099 = .ok (.goto 4, 3) := by decide +kernel
theorem dL_law_1102 : decode cL_law 1102 = .ok (.iconst 0, 1) := by decide +kernel
theorem dL_law_1103 : decode cL_law 1103 = .ok (.aload_n 3, 1) := by decide +kernel
theorem dL_law_1104 : decode cL_law 1104 = .ok (.invokestatic 151, 3) := by decide +kernel
theorem dL_law_1107 : decode cL_law 1107 = .ok (.istore 5, 2) := by decide +kernel
theorem dL_law_1109 : decode cL_law 1109 = .ok (.aload_n 2, 1) := by decide +kernel
theorem dL_law_1110 : decode cL_law 1110 = .ok (.aload_n 0, 1) := by decide +kernel
theorem dL_law_1111 : decode cL_law 1111 = .ok (.iload 4, 2) := by decide +kernel
theorem dL_law_1113 : decode cL_law 1113 = .ok (.iconst 1, 1) := by decide +kernel
theorem dL_law_1114 : decode cL_law 1114 = .ok (.iadd, 1) := by decide +kernel
theorem dL_law_1115 : decode cL_law 1115 = .ok (.iaload, 1) := by decide +kernel
theorem dL_law_1116 : decode cL_law 1116 = .ok (.aload_n 0, 1) := by decide +kernel
theorem dL_law_1117 : decode cL_law 1117 = .ok (.iload 4, 2) := by decide +kernel
theorem dL_law_1119 : decode cL_law 1119 = .ok (.iconst 2, 1) := by decide +kernel
theorem dL_law_1120 : decode cL_law 1120 = .ok (.iadd, 1) := by decide +kernel
theorem dL_law_1121 : decode cL_law 1121 = .ok (.iaload, 1) := by decide +kernel
theorem dL_law_1122 : decode cL_law 1122 = .ok (.ifCond .eq 7, 3) := by decide +kernel
theorem dL_law_1125 : decode cL_law 1125 = .ok (.iconst 1, 1) := by decide +kernel
theorem dL_law_1126 : decode cL_law 1126 = .ok (.goto 4, 3) := by decide +kernel
theorem dL_law_1129 : decode cL_law 1129 = .ok (.iconst 0, 1) := by decide +kernel
theorem dL_law_1130 : decode cL_law 1130 = .ok (.invokevirtual 154, 3) := by decide +kernel
theorem dL_law_1133 : decode cL_law 1133 = .ok (.istore 6, 2) := by decide +kernel
theorem dL_law_1135 : decode cL_law 1135 = .ok (.aload_n 2, 1) := by decide +kernel
theorem dL_law_1136 : decode cL_law 1136 = .ok (.invokevirtual 96, 3) := by decide +kernel
theorem dL_law_1139 : decode cL_law 1139 = .ok (.iload 5, 2) := by decide +kernel
theorem dL_law_1141 : decode cL_law 1141 = .ok (.if_icmp .eq 5, 3) := by decide +kernel
theorem dL_law_1144 : decode cL_law 1144 = .ok (.iconst 0, 1) := by decide +kernel
theorem dL_law_1145 : decode cL_law 1145 = .ok (.ireturn, 1) := by decide +kernel
theorem dL_law_1146 : decode cL_law 1146 = .ok (.iload 5, 2) := by decide +kernel
theorem dL_law_1148 : decode cL_law 1148 = .ok (.ifCond .ne 15, 3) := by decide +kernel
theorem dL_law_1151 : decode cL_law 1151 = .ok (.aload_n 3, 1) := by decide +kernel
theorem dL_law_1152 : decode cL_law 1152 = .ok (.iconst 0, 1) := by decide +kernel
theorem dL_law_1153 : decode cL_law 1153 = .ok (.laload, 1) := by decide +kernel
theorem dL_law_1154 : decode cL_law 1154 = .ok (.iload 6, 2) := by decide +kernel
theorem dL_law_1156 : decode cL_law 1156 = .ok (.i2l, 1) := by decide +kernel
theorem dL_law_1157 : decode cL_law 1157 = .ok (.lcmp, 1) := by decide +kernel
theorem dL_law_1158 : decode cL_law 1158 = .ok (.ifCond .eq 5, 3) := by decide +kernel
theorem dL_law_1161 : decode cL_law 1161 = .ok (.iconst 0, 1) := by decide +kernel
theorem dL_law_1162 : decode cL_law 1162 = .ok (.ireturn, 1) := by decide +kernel
theorem dL_law_1163 : decode cL_law 1163 = .ok (.goto 514, 3) := by decide +kernel
theorem dL_law_1166 : decode cL_law 1166 = .ok (.aload_n 1, 1) := by decide +kernel
theorem dL_law_1167 : decode cL_law 1167 = .ok (.aload_n 0, 1) := by decide +kernel
theorem dL_law_1168 : decode cL_law 1168 = .ok (.iload 4, 2) := by decide +kernel
theorem dL_law_1170 : decode cL_law 1170 = .ok (.iconst 1, 1) := by decide +kernel
theorem dL_law_1171 : decode cL_law 1171 = .ok (.iadd, 1) := by decide +kernel
theorem dL_law_1172 : decode cL_law 1172 = .ok (.iaload, 1) := by decide +kernel
theorem dL_law_1173 : decode cL_law 1173 = .ok (.aload_n 0, 1) := by decide +kernel
theorem dL_law_1174 : decode cL_law 1174 = .ok (.iload 4, 2) := by decide +kernel
theorem dL_law_1176 : decode cL_law 1176 = .ok (.iconst 2, 1) := by decide +kernel
theorem dL_law_1177 : decode cL_law 1177 = .ok (.iadd, 1) := by decide +kernel
theorem dL_law_1178 : decode cL_law 1178 = .ok (.iaload, 1) := by decide +kernel
theorem dL_law_1179 : decode cL_law 1179 = .ok (.ifCond .eq 7, 3) := by decide +kernel
theorem dL_law_1182 : decode cL_law 1182 = .ok (.iconst 1, 1) := by decide +kernel
theorem dL_law_1183 : decode cL_law 1183 = .ok (.goto 4, 3) := by decide +kernel
theorem dL_law_1186 : decode cL_law 1186 = .ok (.iconst 0, 1) := by decide +kernel
theorem dL_law_1187 : decode cL_law 1187 = .ok (.aload_n 3, 1) := by decide +kernel
theorem dL_law_1188 : decode cL_law 1188 = .ok (.invokestatic 155, 3) := by decide +kernel
theorem dL_law_1191 : decode cL_law 1191 = .ok (.istore 5, 2) := by decide +kernel
theorem dL_law_1193 : decode cL_law 1193 = .ok (.aload_n 2, 1) := by decide +kernel
theorem dL_law_1194 : decode cL_law 1194 = .ok (.aload_n 0, 1) := by decide +kernel
theorem dL_law_1195 : decode cL_law 1195 = .ok (.iload 4, 2) := by decide +kernel
theorem dL_law_1197 : decode cL_law 1197 = .ok (.iconst 1, 1) := by decide +kernel
theorem dL_law_1198 : decode cL_law 1198 = .ok (.iadd, 1) := by decide +kernel
theorem dL_law_1199 : decode cL_law 1199 = .ok (.iaload, 1) := by decide +kernel
theorem dL_law_1200 : decode cL_law 1200 = .ok (.aload_n 0, 1) := by decide +kernel
theorem dL_law_1201 : decode cL_law 1201 = .ok (.iload 4, 2) := by decide +kernel
theorem dL_law_1203 : decode cL_law 1203 = .ok (.iconst 2, 1) := by decide +kernel
theorem dL_law_1204 : decode cL_law 1204 = .ok (.iadd, 1) := by decide +kernel
theorem dL_law_1205 : decode cL_law 1205 = .ok (.iaload, 1) := by decide +kernel
theorem dL_law_1206 : decode cL_law 1206 = .ok (.ifCond .eq 7, 3) := by decide +kernel
theorem dL_law_1209 : decode cL_law 1209 = .ok (.iconst 1, 1) := by decide +kernel
theorem dL_law_1210 : decode cL_law 1210 = .ok (.goto 4, 3) := by decide +kernel
theorem dL_law_1213 : decode cL_law 1213 = .ok (.iconst 0, 1) := by decide +kernel
theorem dL_law_1214 : decode cL_law 1214 = .ok (.invokevirtual 157, 3) := by decide +kernel
theorem dL_law_1217 : decode cL_law 1217 = .ok (.istore 6, 2) := by decide +kernel
theorem dL_law_1219 : decode cL_law 1219 = .ok (.aload_n 2, 1) := by decide +kernel
theorem dL_law_1220 : decode cL_law 1220 = .ok (.invokevirtual 96, 3) := by decide +kernel
theorem dL_law_1223 : decode cL_law 1223 = .ok (.iload 5, 2) := by decide +kernel
theorem dL_law_1225 : decode cL_law 1225 = .ok (.if_icmp .eq 5, 3) := by decide +kernel
theorem dL_law_1228 : decode cL_law 1228 = .ok (.iconst 0, 1) := by decide +kernel
theorem dL_law_1229 : decode cL_law 1229 = .ok (.ireturn, 1) := by decide +kernel
theorem dL_law_1230 : decode cL_law 1230 = .ok (.iload 5, 2) := by decide +kernel
theorem dL_law_1232 : decode cL_law 1232 = .ok (.ifCond .ne 15, 3) := by decide +kernel
theorem dL_law_1235 : decode cL_law 1235 = .ok (.aload_n 3, 1) := by decide +kernel
theorem dL_law_1236 : decode cL_law 1236 = .ok (.iconst 0, 1) := by decide +kernel
theorem dL_law_1237 : decode cL_law 1237 = .ok (.laload, 1) := by decide +kernel
theorem dL_law_1238 : decode cL_law 1238 = .ok (.iload 6, 2) := by decide +kernel
theorem dL_law_1240 : decode cL_law 1240 = .ok (.i2l, 1) := by decide +kernel
theorem dL_law_1241 : decode cL_law 1241 = .ok (.lcmp, 1) := by decide +kernel
theorem dL_law_1242 : decode cL_law 1242 = .ok (.ifCond .eq 5, 3) := by decide +kernel
theorem dL_law_1245 : decode cL_law 1245 = .ok (.iconst 0, 1) := by decide +kernel
theorem dL_law_1246 : decode cL_law 1246 = .ok (.ireturn, 1) := by decide +kernel
theorem dL_law_1247 : decode cL_law 1247 = .ok (.goto 430, 3) := by decide +kernel
theorem dL_law_1250 : decode cL_law 1250 = .ok (.aload_n 1, 1) := by decide +kernel
theorem dL_law_1251 : decode cL_law 1251 = .ok (.aload_n 0, 1) := by decide +kernel
theorem dL_law_1252 : decode cL_law 1252 = .ok (.iload 4, 2) := by decide +kernel
theorem dL_law_1254 : decode cL_law 1254 = .ok (.iconst 1, 1) := by decide +kernel
theorem dL_law_1255 : decode cL_law 1255 = .ok (.iadd, 1) := by decide +kernel
theorem dL_law_1256 : decode cL_law 1256 = .ok (.iaload, 1) := by decide +kernel
theorem dL_law_1257 : decode cL_law 1257 = .ok (.aload_n 0, 1) := by decide +kernel
theorem dL_law_1258 : decode cL_law 1258 = .ok (.iload 4, 2) := by decide +kernel
theorem dL_law_1260 : decode cL_law 1260 = .ok (.iconst 2, 1) := by decide +kernel
theorem dL_law_1261 : decode cL_law 1261 = .ok (.iadd, 1) := by decide +kernel
theorem dL_law_1262 : decode cL_law 1262 = .ok (.iaload, 1) := by decide +kernel
theorem dL_law_1263 : decode cL_law 1263 = .ok (.aload_n 0, 1) := by decide +kernel
theorem dL_law_1264 : decode cL_law 1264 = .ok (.iload 4, 2) := by decide +kernel
theorem dL_law_1266 : decode cL_law 1266 = .ok (.iconst 3, 1) := by decide +kernel
theorem dL_law_1267 : decode cL_law 1267 = .ok (.iadd, 1) := by decide +kernel
theorem dL_law_1268 : decode cL_law 1268 = .ok (.iaload, 1) := by decide +kernel
theorem dL_law_1269 : decode cL_law 1269 = .ok (.ifCond .eq 7, 3) := by decide +kernel
theorem dL_law_1272 : decode cL_law 1272 = .ok (.iconst 1, 1) := by decide +kernel
theorem dL_law_1273 : decode cL_law 1273 = .ok (.goto 4, 3) := by decide +kernel
theorem dL_law_1276 : decode cL_law 1276 = .ok (.iconst 0, 1) := by decide +kernel
theorem dL_law_1277 : decode cL_law 1277 = .ok (.aload_n 3, 1) := by decide +kernel
theorem dL_law_1278 : decode cL_law 1278 = .ok (.invokestatic 158, 3) := by decide +kernel
theorem dL_law_1281 : decode cL_law 1281 = .ok (.istore 5, 2) := by decide +kernel
theorem dL_law_1283 : decode cL_law 1283 = .ok (.aload_n 2, 1) := by decide +kernel
theorem dL_law_1284 : decode cL_law 1284 = .ok (.aload_n 0, 1) := by decide +kernel
theorem dL_law_1285 : decode cL_law 1285 = .ok (.iload 4, 2) := by decide +kernel
theorem dL_law_1287 : decode cL_law 1287 = .ok (.iconst 1, 1) := by decide +kernel
theorem dL_law_1288 : decode cL_law 1288 = .ok (.iadd, 1) := by decide +kernel
theorem dL_law_1289 : decode cL_law 1289 = .ok (.iaload, 1) := by decide +kernel
theorem dL_law_1290 : decode cL_law 1290 = .ok (.aload_n 0, 1) := by decide +kernel
theorem dL_law_1291 : decode cL_law 1291 = .ok (.iload 4, 2) := by decide +kernel
theorem dL_law_1293 : decode cL_law 1293 = .ok (.iconst 2, 1) := by decide +kernel
theorem dL_law_1294 : decode cL_law 1294 = .ok (.iadd, 1) := by decide +kernel
theorem dL_law_1295 : decode cL_law 1295 = .ok (.iaload, 1) := by decide +kernel
theorem dL_law_1296 : decode cL_law 1296 = .ok (.aload_n 0, 1) := by decide +kernel
theorem dL_law_1297 : decode cL_law 1297 = .ok (.iload 4, 2) := by decide +kernel
theorem dL_law_1299 : decode cL_law 1299 = .ok (.iconst 3, 1) := by decide +kernel
theorem dL_law_1300 : decode cL_law 1300 = .ok (.iadd, 1) := by decide +kernel
theorem dL_law_1301 : decode cL_law 1301 = .ok (.iaload, 1) := by decide +kernel
theorem dL_law_1302 : decode cL_law 1302 = .ok (.ifCond .eq 7, 3) := by decide +kernel
theorem dL_law_1305 : decode cL_law 1305 = .ok (.iconst 1, 1) := by decide +kernel
theorem dL_law_1306 : decode cL_law 1306 = .ok (.goto 4, 3) := by decide +kernel
theorem dL_law_1309 : decode cL_law 1309 = .ok (.iconst 0, 1) := by decide +kernel
theorem dL_law_1310 : decode cL_law 1310 = .ok (.invokevirtual 161, 3) := by decide +kernel
theorem dL_law_1313 : decode cL_law 1313 = .ok (.istore 6, 2) := by decide +kernel
theorem dL_law_1315 : decode cL_law 1315 = .ok (.aload_n 2, 1) := by decide +kernel
theorem dL_law_1316 : decode cL_law 1316 = .ok (.invokevirtual 96, 3) := by decide +kernel
theorem dL_law_1319 : decode cL_law 1319 = .ok (.iload 5, 2) := by decide +kernel
theorem dL_law_1321 : decode cL_law 1321 = .ok (.if_icmp .eq 5, 3) := by decide +kernel
theorem dL_law_1324 : decode cL_law 1324 = .ok (.iconst 0, 1) := by decide +kernel
theorem dL_law_1325 : decode cL_law 1325 = .ok (.ireturn, 1) := by decide +kernel
theorem dL_law_1326 : decode cL_law 1326 = .ok (.iload 5, 2) := by decide +kernel
theorem dL_law_1328 : decode cL_law 1328 = .ok (.ifCond .ne 15, 3) := by decide +kernel
theorem dL_law_1331 : decode cL_law 1331 = .ok (.aload_n 3, 1) := by decide +kernel
theorem dL_law_1332 : decode cL_law 1332 = .ok (.iconst 0, 1) := by decide +kernel
theorem dL_law_1333 : decode cL_law 1333 = .ok (.laload, 1) := by decide +kernel
theorem dL_law_1334 : decode cL_law 1334 = .ok (.iload 6, 2) := by decide +kernel
theorem dL_law_1336 : decode cL_law 1336 = .ok (.i2l, 1) := by decide +kernel
theorem dL_law_1337 : decode cL_law 1337 = .ok (.lcmp, 1) := by decide +kernel
theorem dL_law_1338 : decode cL_law 1338 = .ok (.ifCond .eq 5, 3) := by decide +kernel
theorem dL_law_1341 : decode cL_law 1341 = .ok (.iconst 0, 1) := by decide +kernel
theorem dL_law_1342 : decode cL_law 1342 = .ok (.ireturn, 1) := by decide +kernel
theorem dL_law_1343 : decode cL_law 1343 = .ok (.goto 334, 3) := by decide +kernel
theorem dL_law_1346 : decode cL_law 1346 = .ok (.aload_n 1, 1) := by decide +kernel
theorem dL_law_1347 : decode cL_law 1347 = .ok (.aload_n 0, 1) := by decide +kernel
theorem dL_law_1348 : decode cL_law 1348 = .ok (.iload 4, 2) := by decide +kernel
theorem dL_law_1350 : decode cL_law 1350 = .ok (.iconst 1, 1) := by decide +kernel
theorem dL_law_1351 : decode cL_law 1351 = .ok (.iadd, 1) := by decide +kernel
theorem dL_law_1352 : decode cL_law 1352 = .ok (.iaload, 1) := by decide +kernel
theorem dL_law_1353 : decode cL_law 1353 = .ok (.aload_n 0, 1) := by decide +kernel
theorem dL_law_1354 : decode cL_law 1354 = .ok (.iload 4, 2) := by decide +kernel
theorem dL_law_1356 : decode cL_law 1356 = .ok (.iconst 2, 1) := by decide +kernel
theorem dL_law_1357 : decode cL_law 1357 = .ok (.iadd, 1) := by decide +kernel
theorem dL_law_1358 : decode cL_law 1358 = .ok (.iaload, 1) := by decide +kernel
theorem dL_law_1359 : decode cL_law 1359 = .ok (.aload_n 3, 1) := by decide +kernel
theorem dL_law_1360 : decode cL_law 1360 = .ok (.invokestatic 162, 3) := by decide +kernel
theorem dL_law_1363 : decode cL_law 1363 = .ok (.istore 5, 2) := by decide +kernel
theorem dL_law_1365 : decode cL_law 1365 = .ok (.aload_n 2, 1) := by decide +kernel
theorem dL_law_1366 : decode cL_law 1366 = .ok (.aload_n 0, 1) := by decide +kernel
theorem dL_law_1367 : decode cL_law 1367 = .ok (.iload 4, 2) := by decide +kernel
theorem dL_law_1369 : decode cL_law 1369 = .ok (.iconst 1, 1) := by decide +kernel
theorem dL_law_1370 : decode cL_law 1370 = .ok (.iadd, 1) := by decide +kernel
theorem dL_law_1371 : decode cL_law 1371 = .ok (.iaload, 1) := by decide +kernel
theorem dL_law_1372 : decode cL_law 1372 = .ok (.aload_n 0, 1) := by decide +kernel
theorem dL_law_1373 : decode cL_law 1373 = .ok (.iload 4, 2) := by decide +kernel
theorem dL_law_1375 : decode cL_law 1375 = .ok (.iconst 2, 1) := by decide +kernel
theorem dL_law_1376 : decode cL_law 1376 = .ok (.iadd, 1) := by decide +kernel
theorem dL_law_1377 : decode cL_law 1377 = .ok (.iaload, 1) := by decide +kernel
theorem dL_law_1378 : decode cL_law 1378 = .ok (.invokevirtual 164, 3) := by decide +kernel
theorem dL_law_1381 : decode cL_law 1381 = .ok (.istore 6, 2) := by decide +kernel
theorem dL_law_1383 : decode cL_law 1383 = .ok (.aload_n 2, 1) := by decide +kernel
theorem dL_law_1384 : decode cL_law 1384 = .ok (.invokevirtual 96, 3) := by decide +kernel
theorem dL_law_1387 : decode cL_law 1387 = .ok (.iload 5, 2) := by decide +kernel
theorem dL_law_1389 : decode cL_law 1389 = .ok (.if_icmp .eq 5, 3) := by decide +kernel
theorem dL_law_1392 : decode cL_law 1392 = .ok (.iconst 0, 1) := by decide +kernel
theorem dL_law_1393 : decode cL_law 1393 = .ok (.ireturn, 1) := by decide +kernel
theorem dL_law_1394 : decode cL_law 1394 = .ok (.iload 5, 2) := by decide +kernel
theorem dL_law_1396 : decode cL_law 1396 = .ok (.ifCond .ne 15, 3) := by decide +kernel
theorem dL_law_1399 : decode cL_law 1399 = .ok (.aload_n 3, 1) := by decide +kernel
theorem dL_law_1400 : decode cL_law 1400 = .ok (.iconst 0, 1) := by decide +kernel
theorem dL_law_1401 : decode cL_law 1401 = .ok (.laload, 1) := by decide +kernel
theorem dL_law_1402 : decode cL_law 1402 = .ok (.iload 6, 2) := by decide +kernel
theorem dL_law_1404 : decode cL_law 1404 = .ok (.i2l, 1) := by decide +kernel
theorem dL_law_1405 : decode cL_law 1405 = .ok (.lcmp, 1) := by decide +kernel
theorem dL_law_1406 : decode cL_law 1406 = .ok (.ifCond .eq 5, 3) := by decide +kernel
theorem dL_law_1409 : decode cL_law 1409 = .ok (.iconst 0, 1) := by decide +kernel
theorem dL_law_1410 : decode cL_law 1410 = .ok (.ireturn, 1) := by decide +kernel
theorem dL_law_1411 : decode cL_law 1411 = .ok (.goto 266, 3) := by decide +kernel
theorem dL_law_1414 : decode cL_law 1414 = .ok (.aload_n 1, 1) := by decide +kernel
theorem dL_law_1415 : decode cL_law 1415 = .ok (.aload_n 0, 1) := by decide +kernel
theorem dL_law_1416 : decode cL_law 1416 = .ok (.iload 4, 2) := by decide +kernel
theorem dL_law_1418 : decode cL_law 1418 = .ok (.iconst 1, 1) := by decide +kernel
theorem dL_law_1419 : decode cL_law 1419 = .ok (.iadd, 1) := by decide +kernel
theorem dL_law_1420 : decode cL_law 1420 = .ok (.iaload, 1) := by decide +kernel
theorem dL_law_1421 : decode cL_law 1421 = .ok (.aload_n 0, 1) := by decide +kernel
theorem dL_law_1422 : decode cL_law 1422 = .ok (.iload 4, 2) := by decide +kernel
theorem dL_law_1424 : decode cL_law 1424 = .ok (.iconst 2, 1) := by decide +kernel
theorem dL_law_1425 : decode cL_law 1425 = .ok (.iadd, 1) := by decide +kernel
theorem dL_law_1426 : decode cL_law 1426 = .ok (.iaload, 1) := by decide +kernel
theorem dL_law_1427 : decode cL_law 1427 = .ok (.ifCond .eq 7, 3) := by decide +kernel
theorem dL_law_1430 : decode cL_law 1430 = .ok (.iconst 1, 1) := by decide +kernel
theorem dL_law_1431 : decode cL_law 1431 = .ok (.goto 4, 3) := by decide +kernel
theorem dL_law_1434 : decode cL_law 1434 = .ok (.iconst 0, 1) := by decide +kernel
theorem dL_law_1435 : decode cL_law 1435 = .ok (.aload_n 3, 1) := by decide +kernel
theorem dL_law_1436 : decode cL_law 1436 = .ok (.invokestatic 165, 3) := by decide +kernel
theorem dL_law_1439 : decode cL_law 1439 = .ok (.istore 5, 2) := by decide +kernel
theorem dL_law_1441 : decode cL_law 1441 = .ok (.aload_n 2, 1) := by decide +kernel
theorem dL_law_1442 : decode cL_law 1442 = .ok (.aload_n 0, 1) := by decide +kernel
theorem dL_law_1443 : decode cL_law 1443 = .ok (.iload 4, 2) := by decide +kernel
theorem dL_law_1445 : decode cL_law 1445 = .ok (.iconst 1, 1) := by decide +kernel
theorem dL_law_1446 : decode cL_law 1446 = .ok (.iadd, 1) := by decide +kernel
theorem dL_law_1447 : decode cL_law 1447 = .ok (.iaload, 1) := by decide +kernel
theorem dL_law_1448 : decode cL_law 1448 = .ok (.aload_n 0, 1) := by decide +kernel
theorem dL_law_1449 : decode cL_law 1449 = .ok (.iload 4, 2) := by decide +kernel
theorem dL_law_1451 : decode cL_law 1451 = .ok (.iconst 2, 1) := by decide +kernel
theorem dL_law_1452 : decode cL_law 1452 = .ok (.iadd, 1) := by decide +kernel
theorem dL_law_1453 : decode cL_law 1453 = .ok (.iaload, 1) := by decide +kernel
theorem dL_law_1454 : decode cL_law 1454 = .ok (.ifCond .eq 7, 3) := by decide +kernel
theorem dL_law_1457 : decode cL_law 1457 = .ok (.iconst 1, 1) := by decide +kernel
theorem dL_law_1458 : decode cL_law 1458 = .ok (.goto 4, 3) := by decide +kernel
theorem dL_law_1461 : decode cL_law 1461 = .ok (.iconst 0, 1) := by decide +kernel
theorem dL_law_1462 : decode cL_law 1462 = .ok (.invokevirtual 167, 3) := by decide +kernel
theorem dL_law_1465 : decode cL_law 1465 = .ok (.istore 6, 2) := by decide +kernel
theorem dL_law_1467 : decode cL_law 1467 = .ok (.aload_n 2, 1) := by decide +kernel
theorem dL_law_1468 : decode cL_law 1468 = .ok (.invokevirtual 96, 3) := by decide +kernel
theorem dL_law_1471 : decode cL_law 1471 = .ok (.iload 5, 2) := by decide +kernel
theorem dL_law_1473 : decode cL_law 1473 = .ok (.if_icmp .eq 5, 3) := by decide +kernel
theorem dL_law_1476 : decode cL_law 1476 = .ok (.iconst 0, 1) := by decide +kernel
theorem dL_law_1477 : decode cL_law 1477 = .ok (.ireturn, 1) := by decide +kernel
theorem dL_law_1478 : decode cL_law 1478 = .ok (.iload 5, 2) := by decide +kernel
theorem dL_law_1480 : decode cL_law 1480 = .ok (.ifCond .ne 15, 3) := by decide +kernel
theorem dL_law_1483 : decode cL_law 1483 = .ok (.aload_n 3, 1) := by decide +kernel
theorem dL_law_1484 : decode cL_law 1484 = .ok (.iconst 0, 1) := by decide +kernel
theorem dL_law_1485 : decode cL_law 1485 = .ok (.laload, 1) := by decide +kernel
theorem dL_law_1486 : decode cL_law 1486 = .ok (.iload 6, 2) := by decide +kernel
theorem dL_law_1488 : decode cL_law 1488 = .ok (.i2l, 1) := by decide +kernel
theorem dL_law_1489 : decode cL_law 1489 = .ok (.lcmp, 1) := by decide +kernel
theorem dL_law_1490 : decode cL_law 1490 = .ok (.ifCond .eq 5, 3) := by decide +kernel
theorem dL_law_1493 : decode cL_law 1493 = .ok (.iconst 0, 1) := by decide +kernel
theorem dL_law_1494 : decode cL_law 1494 = .ok (.ireturn, 1) := by decide +kernel
theorem dL_law_1495 : decode cL_law 1495 = .ok (.goto 182, 3) := by decide +kernel
theorem dL_law_1498 : decode cL_law 1498 = .ok (.aload_n 1, 1) := by decide +kernel
theorem dL_law_1499 : decode cL_law 1499 = .ok (.aload_n 0, 1) := by decide +kernel
theorem dL_law_1500 : decode cL_law 1500 = .ok (.iload 4, 2) := by decide +kernel
theorem dL_law_1502 : decode cL_law 1502 = .ok (.iconst 1, 1) := by decide +kernel
theorem dL_law_1503 : decode cL_law 1503 = .ok (.iadd, 1) := by decide +kernel
theorem dL_law_1504 : decode cL_law 1504 = .ok (.iaload, 1) := by decide +kernel
theorem dL_law_1505 : decode cL_law 1505 = .ok (.aload_n 3, 1) := by decide +kernel
theorem dL_law_1506 : decode cL_law 1506 = .ok (.invokestatic 168, 3) := by decide +kernel
theorem dL_law_1509 : decode cL_law 1509 = .ok (.istore 5, 2) := by decide +kernel
theorem dL_law_1511 : decode cL_law 1511 = .ok (.aload_n 2, 1) := by decide +kernel
theorem dL_law_1512 : decode cL_law 1512 = .ok (.aload_n 0, 1) := by decide +kernel
theorem dL_law_1513 : decode cL_law 1513 = .ok (.iload 4, 2) := by decide +kernel
theorem dL_law_1515 : decode cL_law 1515 = .ok (.iconst 1, 1) := by decide +kernel
theorem dL_law_1516 : decode cL_law 1516 = .ok (.iadd, 1) := by decide +kernel
theorem dL_law_1517 : decode cL_law 1517 = .ok (.iaload, 1) := by decide +kernel
theorem dL_law_1518 : decode cL_law 1518 = .ok (.invokevirtual 170, 3) := by decide +kernel
theorem dL_law_1521 : decode cL_law 1521 = .ok (.istore 6, 2) := by decide +kernel
theorem dL_law_1523 : decode cL_law 1523 = .ok (.aload_n 2, 1) := by decide +kernel
theorem dL_law_1524 : decode cL_law 1524 = .ok (.invokevirtual 96, 3) := by decide +kernel
theorem dL_law_1527 : decode cL_law 1527 = .ok (.iload 5, 2) := by decide +kernel
theorem dL_law_1529 : decode cL_law 1529 = .ok (.if_icmp .eq 5, 3) := by decide +kernel
theorem dL_law_1532 : decode cL_law 1532 = .ok (.iconst 0, 1) := by decide +kernel
theorem dL_law_1533 : decode cL_law 1533 = .ok (.ireturn, 1) := by decide +kernel
theorem dL_law_1534 : decode cL_law 1534 = .ok (.iload 5, 2) := by decide +kernel
theorem dL_law_1536 : decode cL_law 1536 = .ok (.ifCond .ne 15, 3) := by decide +kernel
theorem dL_law_1539 : decode cL_law 1539 = .ok (.aload_n 3, 1) := by decide +kernel
theorem dL_law_1540 : decode cL_law 1540 = .ok (.iconst 0, 1) := by decide +kernel
theorem dL_law_1541 : decode cL_law 1541 = .ok (.laload, 1) := by decide +kernel
theorem dL_law_1542 : decode cL_law 1542 = .ok (.iload 6, 2) := by decide +kernel
theorem dL_law_1544 : decode cL_law 1544 = .ok (.i2l, 1) := by decide +kernel
theorem dL_law_1545 : decode cL_law 1545 = .ok (.lcmp, 1) := by decide +kernel
theorem dL_law_1546 : decode cL_law 1546 = .ok (.ifCond .eq 5, 3) := by decide +kernel
theorem dL_law_1549 : decode cL_law 1549 = .ok (.iconst 0, 1) := by decide +kernel
theorem dL_law_1550 : decode cL_law 1550 = .ok (.ireturn, 1) := by decide +kernel
theorem dL_law_1551 : decode cL_law 1551 = .ok (.goto 126, 3) := by decide +kernel
theorem dL_law_1554 : decode cL_law 1554 = .ok (.aload_n 1, 1) := by decide +kernel
theorem dL_law_1555 : decode cL_law 1555 = .ok (.aload_n 0, 1) := by decide +kernel
theorem dL_law_1556 : decode cL_law 1556 = .ok (.iload 4, 2) := by decide +kernel
theorem dL_law_1558 : decode cL_law 1558 = .ok (.iconst 1, 1) := by decide +kernel
theorem dL_law_1559 : decode cL_law 1559 = .ok (.iadd, 1) := by decide +kernel
theorem dL_law_1560 : decode cL_law 1560 = .ok (.iaload, 1) := by decide +kernel
theorem dL_law_1561 : decode cL_law 1561 = .ok (.aload_n 0, 1) := by decide +kernel
theorem dL_law_1562 : decode cL_law 1562 = .ok (.iload 4, 2) := by decide +kernel
theorem dL_law_1564 : decode cL_law 1564 = .ok (.iconst 2, 1) := by decide +kernel
theorem dL_law_1565 : decode cL_law 1565 = .ok (.iadd, 1) := by decide +kernel
theorem dL_law_1566 : decode cL_law 1566 = .ok (.iaload, 1) := by decide +kernel
theorem dL_law_1567 : decode cL_law 1567 = .ok (.aload_n 3, 1) := by decide +kernel
theorem dL_law_1568 : decode cL_law 1568 = .ok (.invokestatic 171, 3) := by decide +kernel
theorem dL_law_1571 : decode cL_law 1571 = .ok (.istore 5, 2) := by decide +kernel
theorem dL_law_1573 : decode cL_law 1573 = .ok (.aload_n 2, 1) := by decide +kernel
theorem dL_law_1574 : decode cL_law 1574 = .ok (.aload_n 0, 1) := by decide +kernel
theorem dL_law_1575 : decode cL_law 1575 = .ok (.iload 4, 2) := by decide +kernel
theorem dL_law_1577 : decode cL_law 1577 = .ok (.iconst 1, 1) := by decide +kernel
theorem dL_law_1578 : decode cL_law 1578 = .ok (.iadd, 1) := by decide +kernel
theorem dL_law_1579 : decode cL_law 1579 = .ok (.iaload, 1) := by decide +kernel
theorem dL_law_1580 : decode cL_law 1580 = .ok (.aload_n 0, 1) := by decide +kernel
theorem dL_law_1581 : decode cL_law 1581 = .ok (.iload 4, 2) := by decide +kernel
theorem dL_law_1583 : decode cL_law 1583 = .ok (.iconst 2, 1) := by decide +kernel
theorem dL_law_1584 : decode cL_law 1584 = .ok (.iadd, 1) := by decide +kernel
theorem dL_law_1585 : decode cL_law 1585 = .ok (.iaload, 1) := by decide +kernel
theorem dL_law_1586 : decode cL_law 1586 = .ok (.invokevirtual 173, 3) := by decide +kernel
theorem dL_law_1589 : decode cL_law 1589 = .ok (.istore 6, 2) := by decide +kernel
theorem dL_law_1591 : decode cL_law 1591 = .ok (.aload_n 2, 1) := by decide +kernel
theorem dL_law_1592 : decode cL_law 1592 = .ok (.invokevirtual 96, 3) := by decide +kernel
theorem dL_law_1595 : decode cL_law 1595 = .ok (.iload 5, 2) := by decide +kernel
theorem dL_law_1597 : decode cL_law 1597 = .ok (.if_icmp .eq 5, 3) := by decide +kernel
theorem dL_law_1600 : decode cL_law 1600 = .ok (.iconst 0, 1) := by decide +kernel
theorem dL_law_1601 : decode cL_law 1601 = .ok (.ireturn, 1) := by decide +kernel
theorem dL_law_1602 : decode cL_law 1602 = .ok (.iload 5, 2) := by decide +kernel
theorem dL_law_1604 : decode cL_law 1604 = .ok (.ifCond .ne 15, 3) := by decide +kernel
theorem dL_law_1607 : decode cL_law 1607 = .ok (.aload_n 3, 1) := by decide +kernel
theorem dL_law_1608 : decode cL_law 1608 = .ok (.iconst 0, 1) := by decide +kernel
theorem dL_law_1609 : decode cL_law 1609 = .ok (.laload, 1) := by decide +kernel
theorem dL_law_1610 : decode cL_law 1610 = .ok (.iload 6, 2) := by decide +kernel
theorem dL_law_1612 : decode cL_law 1612 = .ok (.i2l, 1) := by decide +kernel
theorem dL_law_1613 : decode cL_law 1613 = .ok (.lcmp, 1) := by decide +kernel
theorem dL_law_1614 : decode cL_law 1614 = .ok (.ifCond .eq 5, 3) := by decide +kernel
theorem dL_law_1617 : decode cL_law 1617 = .ok (.iconst 0, 1) := by decide +kernel
theorem dL_law_1618 : decode cL_law 1618 = .ok (.ireturn, 1) := by decide +kernel
theorem dL_law_1619 : decode cL_law 1619 = .ok (.goto 58, 3) := by decide +kernel
theorem dL_law_1622 : decode cL_law 1622 = .ok (.aload_n 1, 1) := by decide +kernel
theorem dL_law_1623 : decode cL_law 1623 = .ok (.invokevirtual 174, 3) := by decide +kernel
theorem dL_law_1626 : decode cL_law 1626 = .ok (.dstore 5, 2) := by decide +kernel
theorem dL_law_1628 : decode cL_law 1628 = .ok (.aload_n 2, 1) := by decide +kernel
theorem dL_law_1629 : decode cL_law 1629 = .ok (.invokevirtual 178, 3) := by decide +kernel
theorem dL_law_1632 : decode cL_law 1632 = .ok (.dstore 7, 2) := by decide +kernel
theorem dL_law_1634 : decode cL_law 1634 = .ok (.dload 5, 2) := by decide +kernel
theorem dL_law_1636 : decode cL_law 1636 = .ok (.dload 7, 2) := by decide +kernel
theorem dL_law_1638 : decode cL_law 1638 = .ok (.dcmp .l, 1) := by decide +kernel
theorem dL_law_1639 : decode cL_law 1639 = .ok (.ifCond .eq 21, 3) := by decide +kernel
theorem dL_law_1642 : decode cL_law 1642 = .ok (.dload 5, 2) := by decide +kernel
theorem dL_law_1644 : decode cL_law 1644 = .ok (.dload 5, 2) := by decide +kernel
theorem dL_law_1646 : decode cL_law 1646 = .ok (.dcmp .l, 1) := by decide +kernel
theorem dL_law_1647 : decode cL_law 1647 = .ok (.ifCond .eq 11, 3) := by decide +kernel
theorem dL_law_1650 : decode cL_law 1650 = .ok (.dload 7, 2) := by decide +kernel
theorem dL_law_1652 : decode cL_law 1652 = .ok (.dload 7, 2) := by decide +kernel
theorem dL_law_1654 : decode cL_law 1654 = .ok (.dcmp .l, 1) := by decide +kernel
theorem dL_law_1655 : decode cL_law 1655 = .ok (.ifCond .ne 5, 3) := by decide +kernel
theorem dL_law_1658 : decode cL_law 1658 = .ok (.iconst 0, 1) := by decide +kernel
theorem dL_law_1659 : decode cL_law 1659 = .ok (.ireturn, 1) := by decide +kernel
theorem dL_law_1660 : decode cL_law 1660 = .ok (.goto 17, 3) := by decide +kernel
theorem dL_law_1663 : decode cL_law 1663 = .ok (.aload_n 1, 1) := by decide +kernel
theorem dL_law_1664 : decode cL_law 1664 = .ok (.invokevirtual 179, 3) := by decide +kernel
theorem dL_law_1667 : decode cL_law 1667 = .ok (.aload_n 2, 1) := by decide +kernel
theorem dL_law_1668 : decode cL_law 1668 = .ok (.invokevirtual 183, 3) := by decide +kernel
theorem dL_law_1671 : decode cL_law 1671 = .ok (.lcmp, 1) := by decide +kernel
theorem dL_law_1672 : decode cL_law 1672 = .ok (.ifCond .eq 5, 3) := by decide +kernel
theorem dL_law_1675 : decode cL_law 1675 = .ok (.iconst 0, 1) := by decide +kernel
theorem dL_law_1676 : decode cL_law 1676 = .ok (.ireturn, 1) := by decide +kernel
theorem dL_law_1677 : decode cL_law 1677 = .ok (.iinc 4 4, 3) := by decide +kernel
theorem dL_law_1680 : decode cL_law 1680 = .ok (.goto (-1657), 3) := by decide +kernel
theorem dL_law_1683 : decode cL_law 1683 = .ok (.iconst 1, 1) := by decide +kernel
theorem dL_law_1684 : decode cL_law 1684 = .ok (.ireturn, 1) := by decide +kernel
end
section
/-! the shapes of this proof's contracts, and their calls: over the kit's rows -/
section BASE
variable {p : Program} {l : Launch} {e : Env} {R : Room} {s : State} {m : MethodId} {args : Array Value} {below : List Frame} {meth : Method} {c : Code} {H : Heap} {locs : List Loc} {cells slots : Nat} {Q : State → Prop}
variable {pc : Nat} {ls : Array Slot} {rest st0 : List Value} {a : Array Value} {A0 : Nat → Prop} {H0 : Heap} {D : va_G} {tys : List (ClassId × FieldType)}
/-- the addresses of a world -/
def Aw (ws : va_W) : Nat → Prop := fun q => ∃ (k : Nat) (e : va_E), ws[k]? = some (q, e)
/-- a start: the arguments, and a world -/
def Pz (av : List Value) (D : va_G) (tys : List (ClassId × FieldType)) (ws : va_W) : Array Value → State → Prop := fun v U => v = av.toArray ∧ va_P D vwCl ws U.heap ∧ va_K D vwCl tys U ∧ va_D (fun _ => True) ws
/-- an end of a method that only reads -/
def pQ (v : Option Value) : Array Value → State → Outcome → State → Prop := fun _ st oc t => oc = .returned v ∧ t.heap = st.heap
/-- an end of a method that makes nothing: its answer, its world, and nothing else changed -/
def fQ (v : Option Value) (D : va_G) (ws ws' : va_W) : Array Value → State → Outcome → State → Prop := fun _ st oc t => oc = .returned v ∧ va_P D vwCl ws' t.heap ∧ va_F (Aw ws) st t
theorem Pz.blind {av : List Value} {ws : va_W} : FrameBlind (Pz av D tys ws) := fun _ U g mk q => ⟨q.1, q.2.1, va_K.moved (u := U) (U := U.calling g mk _) (Vm.Alike.refl U.vm) q.2.2.1, q.2.2.2⟩
theorem Pz.pre {av : List Value} {ws : va_W} {A : Nat → Prop} (hP : va_P D vwCl ws H) (hK : va_K D vwCl tys s) (hD : va_D A ws) : ∀ U : State, U.heap = H → s.WarmedH U.vm → Pz av D tys ws av.toArray U :=
  fun U hU hW => ⟨rfl, by rw [hU]; exact hP, va_K.moved hW.alike hK, hD.weaken (fun _ _ _ _ => trivial)⟩
theorem gAW {y : MethodName} {bytes : ByteArray} {maxL : Nat} {ret : Option FieldType} (h5 : Cond.code y bytes maxL ret ∈ AW) : GoodIn AW (Cond.code y bytes maxL ret :: AW) := fun w hw => by
  rcases List.mem_cons.mp hw with h | h
  · rw [h]; exact ⟨h5, aw_good h5⟩
  · exact ⟨h, aw_good h⟩
theorem cs_p {v : Value} (hr : va_Run p l e R s m args below meth c H locs cells slots 0 0 (F0 m pc ls st0) rest (pQ (some v) a) (fun _ => False))
    (kk : W p l e R s m args below meth c H locs cells slots Q (F0 m (pc + 3) ls (v :: rest))) : W p l e R s m args below meth c H locs cells slots Q (F0 m pc ls st0) := by
  intro T hT X
  obtain ⟨v', st₀, t, T', L, h0, X', hL, e1, -, ⟨hv, hh⟩, st⟩ := hr T hT X
  cases hv
  obtain ⟨t2, a1, b1⟩ := kk T' (by rw [e1, hh, h0]) (Stand.forget X' (fun q h => (hL q h).elim))
  exact ⟨t2, st t2 a1, b1⟩
theorem cs_f {v : Option Value} {ws ws' : va_W} (hr : va_Run p l e R s m args below meth c H locs cells slots 0 0 (F0 m pc ls st0) rest (fQ v D ws ws' a) (Aw ws)) (hS : va_S A0 H0 H locs) (hA : ∀ q, Aw ws q → A0 q)
    (kk : ∀ (H1 : Heap) (locs1 : List Loc), va_P D vwCl ws' H1 → (∀ q : Nat, q < H.size → ¬ Aw ws q → H1[q]? = H[q]?) → va_S A0 H0 H1 locs1 → W p l e R s m args below meth c H1 locs1 cells slots Q (F0 m (pc + 3) ls (v.toList ++ rest))) : W p l e R s m args below meth c H locs cells slots Q (F0 m pc ls st0) := by
  intro T hT X
  obtain ⟨v', st₀, t, T', L, h0, X', hL, e1, -, ⟨hv, hp, hz, hk⟩, st⟩ := hr T hT X
  cases hv
  rw [h0] at hz hk
  obtain ⟨t2, a1, b1⟩ := kk T'.heap (locs ++ L) (by rw [e1]; exact hp) (fun q h1 h2 => by rw [e1]; exact hk q h1 h2)
    ⟨Nat.le_trans hS.1 (by rw [e1]; exact hz), fun q h1 h2 => by rw [e1, hk q (Nat.lt_of_lt_of_le h1 hS.1) (fun z => h2 (hA q z))]; exact hS.2.1 q h1 h2, fun q hq => by
      rcases List.mem_append.mp hq with h | h
      · exact hS.2.2 q h
      · exact hA _ (hL q h)⟩ T' rfl X'
  exact ⟨t2, st t2 a1, b1⟩
theorem cs_fs {v : Value} {ws ws' : va_W} (hr : va_Run p l e R s m args below meth c H locs cells slots 0 0 (F0 m pc ls st0) rest (fQ (some v) D ws ws' a) (Aw ws)) (hS : va_S A0 H0 H locs) (hA : ∀ q, Aw ws q → A0 q)
    (kk : ∀ (H1 : Heap) (locs1 : List Loc), va_P D vwCl ws' H1 → (∀ q : Nat, q < H.size → ¬ Aw ws q → H1[q]? = H[q]?) → va_S A0 H0 H1 locs1 → W p l e R s m args below meth c H1 locs1 cells slots Q (F0 m (pc + 3) ls (v :: rest))) : W p l e R s m args below meth c H locs cells slots Q (F0 m pc ls st0) := cs_f hr hS hA kk
theorem cs_fn {ws ws' : va_W} (hr : va_Run p l e R s m args below meth c H locs cells slots 0 0 (F0 m pc ls st0) rest (fQ none D ws ws' a) (Aw ws)) (hS : va_S A0 H0 H locs) (hA : ∀ q, Aw ws q → A0 q)
    (kk : ∀ (H1 : Heap) (locs1 : List Loc), va_P D vwCl ws' H1 → (∀ q : Nat, q < H.size → ¬ Aw ws q → H1[q]? = H[q]?) → va_S A0 H0 H1 locs1 → W p l e R s m args below meth c H1 locs1 cells slots Q (F0 m (pc + 3) ls rest)) : W p l e R s m args below meth c H locs cells slots Q (F0 m pc ls st0) := cs_f hr hS hA kk
section CALLS
variable {y : MethodName} {bytes cc : ByteArray} {maxL nL n idx ci N : Nat} {ret : Option FieldType} {rm : Room} {own C host : String} {T : u_T} {b : Addr} {fs As : List Value} {ws ws' : va_W} {A : Nat → Prop}
theorem runV {Qc : Array Value → State → Outcome → State → Prop} {free : Addr → Prop} {mc ms : Nat} (S : CallFix p m c cc nL s args AW own) (hM : Met l y (Cond.code y bytes maxL ret :: AW) rm (Pz (.ref b :: As) D tys ws) Qc mc ms free)
    (h1 : Cond.methodLink own idx y ∈ AW) (h2 : Cond.instanceMethod y ∈ AW) (h3 : Cond.selects C y y ∈ AW) (h4 : Cond.initialized y.cls ∈ AW) (h5 : Cond.code y bytes maxL ret ∈ AW)
    (hd : y.cls ≠ "java/lang/invoke/MethodHandle" ∧ y.cls ≠ "java/lang/invoke/VarHandle" ∧ (parseMethodDescriptor y.desc).map (fun d => d.parameters.length) = some n) (hrm : rm.cells = mc ∧ rm.slots = ms) (hR : rm.frames + 1 ≤ R.frames ∧ 8 + (maxL + 11) + rm.locals ≤ R.locals)
    (hK : va_K D vwCl tys s) (hP : va_P D vwCl ws H) (hD : va_D A ws) (q0 : Nat) (hc : vwCl[ci]? = some (C, T, N)) (he : ws[q0]? = some (b, .inr (ci, fs)))
    (hn : As.length = n) (hsize : ls.size = nL) (hst : st0 = As.reverse ++ .ref b :: rest) (hW : (rest.map fun v => v.category).sum ≤ 8) (hdg : decode cc pc = .ok (.invokevirtual idx, 3)) (hf : cells + mc ≤ R.cells ∧ slots + ms ≤ R.slots) :
    va_Run p l e R s m args below meth c H locs cells slots mc ms (F0 m pc ls st0) rest (Qc (Value.ref b :: As).toArray) free :=
  va_runV S hM ⟨callB_of n S.2.2.2.2 (gAW h5) rfl hrm.1 hrm.2 (S.2.2.2.2 _ h4) (S.2.2.2.2 _ h1) hd hR, S.2.2.2.2 _ h2, S.2.2.2.2 _ h3⟩ ⟨Pz.blind, va_recv hK hP hc he, Pz.pre hP hK hD⟩ rfl hn hsize hst (lv_room hW) hdg hf
theorem runS {Qc : Array Value → State → Outcome → State → Prop} {free : Addr → Prop} {mc ms : Nat} (S : CallFix p m c cc nL s args AW own) (hM : Met l y (Cond.code y bytes maxL ret :: AW) rm (Pz As D tys ws) Qc mc ms free)
    (h1 : Cond.methodLink own idx y ∈ AW) (h2 : Cond.static y ∈ AW) (h4 : Cond.initialized y.cls ∈ AW) (h5 : Cond.code y bytes maxL ret ∈ AW)
    (hd : y.cls ≠ "java/lang/invoke/MethodHandle" ∧ y.cls ≠ "java/lang/invoke/VarHandle" ∧ (parseMethodDescriptor y.desc).map (fun d => d.parameters.length) = some n) (hrm : rm.cells = mc ∧ rm.slots = ms) (hR : rm.frames + 1 ≤ R.frames ∧ 8 + (maxL + 11) + rm.locals ≤ R.locals)
    (hK : va_K D vwCl tys s) (hP : va_P D vwCl ws H) (hD : va_D A ws)
    (hn : As.length = n) (hsize : ls.size = nL) (hst : st0 = As.reverse ++ rest) (hW : (rest.map fun v => v.category).sum ≤ 8) (hdg : decode cc pc = .ok (.invokestatic idx, 3)) (hf : cells + mc ≤ R.cells ∧ slots + ms ≤ R.slots) :
    va_Run p l e R s m args below meth c H locs cells slots mc ms (F0 m pc ls st0) rest (Qc As.toArray) free :=
  va_runS S hM ⟨callB_of n S.2.2.2.2 (gAW h5) rfl hrm.1 hrm.2 (S.2.2.2.2 _ h4) (S.2.2.2.2 _ h1) hd hR, S.2.2.2.2 _ h2⟩ ⟨Pz.blind, Pz.pre hP hK hD⟩ rfl hn hsize hst (lv_room hW) hdg hf
end CALLS
/-- as the kit's Met.ofW, the method plainly named for itself -/
theorem Met.ofF {y : MethodName} {ws ws' : List Cond} {rm : Room} {Pc : Array Value → State → Prop} {Qc : Array Value → State → Outcome → State → Prop} {mc ms : Nat} {free : Addr → Prop} {cc : ByteArray} {maxL : Nat} {ret : Option FieldType}
    (hy : plainFor y = true) (hw : ws = Cond.code y cc maxL ret :: ws')
    (body : ∀ p e s m args below meth c s₁, BodyLoose p l y (headSpec ws rm) cc maxL ret e s m args below meth c s₁ → c.maxLocals = maxL → Pc args s →
      W p l e (headSpec ws rm).room s m args below meth c s.heap [] 0 0 (MQ below Qc args s mc ms free) (entryFrame m args maxL)) : Met l y ws rm Pc Qc mc ms free := by
  refine MetFree.of_bodySF (code := cc) (maxLocals := maxL) (ret := ret) hy ?_ ?_
  · intro args s m h hn
    obtain ⟨meth, c, h1, h2, h3, h4, h5, h6, -, -⟩ := Cond.code_spec hn (atoms_spec (ws := ws) h _ (by rw [hw]; exact List.mem_cons_self))
    exact ⟨meth, c, h1, h2, h3, h4, h5, h6⟩
  · intro p e s m args below meth c s₁ B hml hP _
    have hh0 : s₁.heap = s.heap := by rw [B.state]; rfl
    obtain ⟨t, a1, o, b1, b2, b3⟩ := body p e s m args below meth c s₁ B hml hP s₁ hh0 (Stand.of_body B)
    exact ⟨t, o, a1, b1, b2, ⟨b3.1, b3.2⟩⟩
/-- a method of such a shape, from its entry -/
theorem MetZ {y : MethodName} {cc : ByteArray} {maxL : Nat} {ret : Option FieldType} {rm : Room} {av : List Value} {ws : va_W} {Qc : Array Value → State → Outcome → State → Prop} {free : Addr → Prop} {mc ms : Nat} (hy : plainFor y = true) (hlen : (lg_sl av).length ≤ maxL)
    (body : ∀ (p : Program) (e : Env) (s : State) (m : MethodId) (below : List Frame) (meth : Method) (c : Code) (ls : Array Slot), p.tables.exec = Jvm.exec → c.code = cc → meth.sig.returnType = ret → (∀ w ∈ AW, w.before av.toArray s = true) → s.vm.findClass y.cls = some m.cls → c.maxLocals = maxL → meth.locks = false → meth.name = y.name → va_P D vwCl ws s.heap → va_K D vwCl tys s → va_D (Aw ws) ws → va_S (Aw ws) s.heap s.heap [] → lv_has ls maxL (lv_args 0 av) →
      W p l e rm s m av.toArray below meth c s.heap [] 0 0 (MQ below Qc av.toArray s mc ms free) (F0 m 0 ls [])) : Met l y (Cond.code y cc maxL ret :: AW) rm (Pz av D tys ws) Qc mc ms free := by
  refine Met.ofF (cc := cc) (maxL := maxL) (ret := ret) hy rfl ?_
  intro p e s m args below meth c s₁ B hml hv
  obtain ⟨rfl, hP, hK, hD⟩ := hv
  have hts := atoms_spec (ws := Cond.code y cc maxL ret :: AW) B.pre
  have hin := (name_of_methodNamed B.named B.method).1
  have hl := lv_entry av (n := maxL) hlen
  rw [lg_entry_eq]
  exact body p e s m below meth c _ B.exec B.bytes B.returns (fun w h => hts w (List.mem_cons_of_mem _ h)) (findClass_of_methodNamed B.named) hml B.notSynchronized hin hP hK ⟨hD.1, fun k q hk => ⟨k, q.2, hk⟩⟩ va_S.rf hl
theorem va_D.congr {A : Nat → Prop} {ws ws' : va_W} (h : ws'.map (fun q => q.1) = ws.map (fun q => q.1)) (hD : va_D A ws) : va_D A ws' := by
  have at' : ∀ (k : Nat) (q : Nat × va_E), ws'[k]? = some q → ∃ e, ws[k]? = some (q.1, e) := by
    intro k q hq
    have h1 : (ws'.map (fun q => q.1))[k]? = some q.1 := by rw [List.getElem?_map, hq]; rfl
    rw [h, List.getElem?_map] at h1
    cases hk : ws[k]? with
    | none => rw [hk] at h1; cases h1
    | some z => rw [hk] at h1; exact ⟨z.2, by rw [← Option.some.inj h1]⟩
  refine ⟨fun i j x y hx hy hxy => ?_, fun k q hq => ?_⟩
  · obtain ⟨ex, h1⟩ := at' i x hx
    obtain ⟨ey, h2⟩ := at' j y hy
    exact hD.1 i j _ _ h1 h2 hxy
  · obtain ⟨ex, h1⟩ := at' k q hq
    exact (hD.2 k (q.1, ex) h1 : A q.1)
/-- behind a call that made nothing: the caller's other cells, and the callee's world -/
theorem jn {cl : List vw_C} {ws wc wr w1 : va_W} {H1 : Heap} (hP : va_P D cl ws H) (hD : va_D A0 ws) (isC isR : List Nat) (hC : isC.map (fun i => ws[i]?) = wc.map some) (hR : isR.map (fun i => ws[i]?) = wr.map some) (hn : va_nd (isR ++ isC) = true)
    (hk : ∀ q : Nat, q < H.size → ¬ Aw wc q → H1[q]? = H[q]?) (hP1 : va_P D cl w1 H1) (ha : w1.map (fun q => q.1) = wc.map (fun q => q.1)) : va_P D cl (wr ++ w1) H1 ∧ va_D A0 (wr ++ w1) := by
  have hRC : (isR ++ isC).map (fun i => ws[i]?) = (wr ++ wc).map some := by rw [List.map_append, List.map_append, hC, hR]
  have hD2 : va_D A0 (wr ++ wc) := hD.sub (isR ++ isC) hn hRC
  refine ⟨va_P.app (fun k q hq => ?_) hP1, hD2.congr (by rw [List.map_append, List.map_append, ha])⟩
  have h1 : (isR.map (fun i => ws[i]?))[k]? = some (some q) := by rw [hR, List.getElem?_map, hq]; rfl
  rw [List.getElem?_map] at h1
  cases hi : isR[k]? with
  | none => rw [hi] at h1; cases h1
  | some i =>
    rw [hi] at h1
    have hwi : ws[i]? = some q := Option.some.inj h1
    have hat := hP i q hwi
    refine hat.kept (hk q.1 hat.lt (fun hz => ?_))
    obtain ⟨j, e, hj⟩ := hz
    have hklt : k < wr.length := (List.getElem?_eq_some_iff.mp hq).1
    have g1 : (wr ++ wc)[k]? = some q := by rw [List.getElem?_append_left hklt]; exact hq
    have g2 : (wr ++ wc)[wr.length + j]? = some (q.1, e) := by rw [List.getElem?_append_right (by omega), Nat.add_sub_cancel_left]; exact hj
    have := hD2.1 k (wr.length + j) q (q.1, e) g1 g2 rfl
    omega
theorem aw_sub {ws wc : va_W} {isC : List Nat} (hD : va_D A0 ws) (hC : isC.map (fun i => ws[i]?) = wc.map some) : ∀ q, Aw wc q → A0 q := by
  intro q hq
  obtain ⟨k, e, h⟩ := hq
  have h1 : (isC.map (fun i => ws[i]?))[k]? = some (some (q, e)) := by rw [hC, List.getElem?_map, h]; rfl
  rw [List.getElem?_map] at h1
  cases hi : isC[k]? with
  | none => rw [hi] at h1; cases h1
  | some i => rw [hi] at h1; exact hD.2 i (q, e) (Option.some.inj h1)
section ENDS
variable {cc : ByteArray} {free : Addr → Prop} {ws ws1 ws' : va_W}
theorem end_pi {v w : Int32} (hx : p.tables.exec = Jvm.exec) (hb : c.code = cc) (hr : meth.sig.returnType = some .int) (hlocks : meth.locks = false) (hv : v = w) (hdg : decode cc pc = .ok (.ireturn, 1)) : W p l e R s m args below meth c s.heap [] cells slots (MQ below (pQ (some (.int w))) args s cells slots free) (F0 m pc ls [.int v]) := by
  subst hv
  exact W.iret hx hb hr (fun t ht _ => ⟨rfl, ht⟩) (fun _ h => absurd h List.not_mem_nil) hdg
theorem end_pz {v w : Int32} (hx : p.tables.exec = Jvm.exec) (hb : c.code = cc) (hr : meth.sig.returnType = some .boolean) (hlocks : meth.locks = false) (hn : narrow .boolean (.int v) = .int v) (hv : v = w) (hdg : decode cc pc = .ok (.ireturn, 1)) : W p l e R s m args below meth c s.heap [] cells slots (MQ below (pQ (some (.int w))) args s cells slots free) (F0 m pc ls [.int v]) := by
  subst hv
  exact W.zret hx hb hr hn (fun t ht _ => ⟨rfl, ht⟩) (fun _ h => absurd h List.not_mem_nil) hdg
theorem end_pl {v w : Int64} (hx : p.tables.exec = Jvm.exec) (hb : c.code = cc) (hr : meth.sig.returnType = some .long) (hlocks : meth.locks = false) (hv : v = w) (hdg : decode cc pc = .ok (.lreturn, 1)) : W p l e R s m args below meth c s.heap [] cells slots (MQ below (pQ (some (.long w))) args s cells slots free) (F0 m pc ls [.long v]) := by
  subst hv
  exact W.lret hx hb hr (fun t ht _ => ⟨rfl, ht⟩) (fun _ h => absurd h List.not_mem_nil) hdg
theorem end_pd {v w : UInt64} (hx : p.tables.exec = Jvm.exec) (hb : c.code = cc) (hr : meth.sig.returnType = some .double) (hlocks : meth.locks = false) (hv : v = w) (hdg : decode cc pc = .ok (.dreturn, 1)) : W p l e R s m args below meth c s.heap [] cells slots (MQ below (pQ (some (.double w))) args s cells slots free) (F0 m pc ls [.double v]) := by
  subst hv
  exact W.dret hx hb hr (fun t ht _ => ⟨rfl, ht⟩) (fun _ h => absurd h List.not_mem_nil) hdg
theorem end_pa {v w : Value} {C : String} (hx : p.tables.exec = Jvm.exec) (hb : c.code = cc) (hr : meth.sig.returnType = some (.object C)) (hlocks : meth.locks = false) (hn : v = .null ∨ ∃ a, v = .ref a) (hv : v = w) (hdg : decode cc pc = .ok (.areturn, 1)) : W p l e R s m args below meth c s.heap [] cells slots (MQ below (pQ (some w)) args s cells slots free) (F0 m pc ls [v]) := by
  subst hv
  exact W.aret hx hb hr (Or.inl ⟨_, rfl⟩) hn (fun t ht _ => ⟨rfl, ht⟩) (fun _ h => absurd h List.not_mem_nil) hdg
theorem end_pv (hx : p.tables.exec = Jvm.exec) (hb : c.code = cc) (hr : meth.sig.returnType = none) (hlocks : meth.locks = false) (hdg : decode cc pc = .ok (.return_, 1)) : W p l e R s m args below meth c s.heap [] cells slots (MQ below (pQ none) args s cells slots free) (F0 m pc ls []) := by
  exact W.vret hx hb hr (fun t ht _ => ⟨rfl, ht⟩) (fun _ h => absurd h List.not_mem_nil) hdg
theorem end_fi {v w : Int32} (hx : p.tables.exec = Jvm.exec) (hb : c.code = cc) (hr : meth.sig.returnType = some .int) (hlocks : meth.locks = false) (hP : va_P D vwCl ws1 H) (hS : va_S (Aw ws) s.heap H locs) (hv : v = w) (hw : va_P D vwCl ws1 H → va_P D vwCl ws' H) (hdg : decode cc pc = .ok (.ireturn, 1)) : W p l e R s m args below meth c H locs cells slots (MQ below (fQ (some (.int w)) D ws ws') args s cells slots (Aw ws)) (F0 m pc ls [.int v]) := by
  subst hv
  exact W.iret hx hb hr (fun t ht _ => ⟨rfl, by rw [ht]; exact hw hP, hS.F ht⟩) hS.2.2 hdg
theorem end_fz {v w : Int32} (hx : p.tables.exec = Jvm.exec) (hb : c.code = cc) (hr : meth.sig.returnType = some .boolean) (hlocks : meth.locks = false) (hn : narrow .boolean (.int v) = .int v) (hP : va_P D vwCl ws1 H) (hS : va_S (Aw ws) s.heap H locs) (hv : v = w) (hw : va_P D vwCl ws1 H → va_P D vwCl ws' H) (hdg : decode cc pc = .ok (.ireturn, 1)) : W p l e R s m args below meth c H locs cells slots (MQ below (fQ (some (.int w)) D ws ws') args s cells slots (Aw ws)) (F0 m pc ls [.int v]) := by
  subst hv
  exact W.zret hx hb hr hn (fun t ht _ => ⟨rfl, by rw [ht]; exact hw hP, hS.F ht⟩) hS.2.2 hdg
theorem end_fl {v w : Int64} (hx : p.tables.exec = Jvm.exec) (hb : c.code = cc) (hr : meth.sig.returnType = some .long) (hlocks : meth.locks = false) (hP : va_P D vwCl ws1 H) (hS : va_S (Aw ws) s.heap H locs) (hv : v = w) (hw : va_P D vwCl ws1 H → va_P D vwCl ws' H) (hdg : decode cc pc = .ok (.lreturn, 1)) : W p l e R s m args below meth c H locs cells slots (MQ below (fQ (some (.long w)) D ws ws') args s cells slots (Aw ws)) (F0 m pc ls [.long v]) := by
  subst hv
  exact W.lret hx hb hr (fun t ht _ => ⟨rfl, by rw [ht]; exact hw hP, hS.F ht⟩) hS.2.2 hdg
theorem end_fv (hx : p.tables.exec = Jvm.exec) (hb : c.code = cc) (hr : meth.sig.returnType = none) (hlocks : meth.locks = false) (hP : va_P D vwCl ws1 H) (hS : va_S (Aw ws) s.heap H locs) (hw : va_P D vwCl ws1 H → va_P D vwCl ws' H) (hdg : decode cc pc = .ok (.return_, 1)) : W p l e R s m args below meth c H locs cells slots (MQ below (fQ none D ws ws') args s cells slots (Aw ws)) (F0 m pc ls []) := by
  exact W.vret hx hb hr (fun t ht _ => ⟨rfl, by rw [ht]; exact hw hP, hS.F ht⟩) hS.2.2 hdg
end ENDS
end BASE
/-- the array classes, by their places: int[], Gear[], State[], long[] -/
abbrev TY (kA : Nat → Nat) : List (ClassId × FieldType) := [(kA 0, .int), (kA 1, .object "ArmTolls$Gear"), (kA 2, .object "ArmTolls$State"), (kA 3, .long)]
def bI : Bool → Int32
  | true => 1
  | false => 0
theorem nz_bI (b : Bool) : narrow .boolean (.int (bI b)) = .int (bI b) := by cases b <;> decide
theorem bI_0 {b : Bool} : bI b = 0 ↔ b = false := by cases b <;> decide
theorem sw_out {x : Int32} (lo hi : Int) (h : ∀ k : Int, lo ≤ k → k ≤ hi → x.toInt ≠ k) : x.toInt < lo ∨ hi < x.toInt := by
  rcases Int.lt_or_le x.toInt lo with h1 | h1
  · exact Or.inl h1
  · rcases Int.lt_or_le hi x.toInt with h2 | h2
    · exact Or.inr h2
    · exact absurd rfl (h x.toInt h1 h2)
theorem ge_n {x y : Int32} (h : y ≤ x) : ¬ x < y := fun h2 => by rw [Int32.lt_iff_toInt_lt] at h2; rw [Int32.le_iff_toInt_le] at h; omega
theorem nge_l {x y : Int32} (h : ¬ y ≤ x) : x < y := by rw [Int32.lt_iff_toInt_lt]; rw [Int32.le_iff_toInt_le] at h; omega
theorem in_of {x : Int32} {n : Int32} {N : Nat} (h0 : ¬ x < 0) (h1 : x < n) (hn : n.toInt = N) : vp_in x N := vp_in_iff.mpr ⟨by rw [Int32.lt_iff_toInt_lt] at h0; have : (0 : Int32).toInt = 0 := rfl; omega, by rw [Int32.lt_iff_toInt_lt] at h1; omega⟩
end
section
/-! what the methods of a gear answer and do, in the words of its own numbers: G 0 .. G 10 the fields, G (t + 11) the wear of the tooth t; R the rules -/
def gC (hw : Nat) (G : Nat → Int32) : va_E := .inr (0, [.ref hw, .int (G 0), .int (G 1), .int (G 2), .int (G 3), .int (G 4), .int (G 5), .int (G 6), .int (G 7), .int (G 8), .int (G 9), .int (G 10)])
def wC (kA : Nat → Nat) (G : Nat → Int32) : va_E := .inl (kA 0, 24, .inl (fun t => G (t + 11)))
def rC (R : Nat → Int32) : va_E := .inr (3, [.int (R 0), .int (R 1), .int (R 2), .int (R 3), .int (R 4), .int (R 5)])
def mkG (f0 f1 f2 f3 f4 f5 f6 f7 f8 f9 f10 : Int32) (w : Nat → Int32) : Nat → Int32
  | 0 => f0
  | 1 => f1
  | 2 => f2
  | 3 => f3
  | 4 => f4
  | 5 => f5
  | 6 => f6
  | 7 => f7
  | 8 => f8
  | 9 => f9
  | 10 => f10
  | t + 11 => w t
def nW (q w : Int32) : Int32 := if q + w < 0 then 23 else if q + w < 24 then q + w else 0
def tW (q w : Int32) : Int32 := if w = 1 then q else if 0 < q then q - 1 else 23
def fM (x y : Int32) : Int32 := if (x ^^^ y) < 0 then (if x - x / y * y = 0 then x - x / y * y else (x - x / y * y) + y) else x - x / y * y
def dist (x y : Int32) : Int32 := if 24 - fM (y - x) 24 < fM (y - x) 24 then 24 - fM (y - x) 24 else fM (y - x) 24
def wrF (f : Nat → Int32) (t : Int32) : Int32 := if t < 0 then 0 else if t < 24 then f t.toNatClampNeg else 0
def wsF (f : Nat → Int32) (t v : Int32) : Nat → Int32 := if t < 0 then f else if t < 24 then upd f t.toNatClampNeg v else f
def tlF (ld we gl pt : Int32) : Int32 := if 0 < gl then ((if 0 < pt then 1 + ld + we / pt else 1 + ld) + 1) / 2 else (if 0 < pt then 1 + ld + we / pt else 1 + ld)
def gwr (G : Nat → Int32) (t : Int32) : Int32 := wrF (fun k => G (k + 11)) t
def tollG (G R : Nat → Int32) (w : Int32) : Int32 := tlF (G 2) (gwr G (tW (G 0) w)) (G 5) (R 1)
def turnG (G : Nat → Int32) (w : Int32) : Bool := decide (G 3 = -w)
/-- one step of a gear, its toll being there -/
def stepG (G R : Nat → Int32) (w : Int32) : Nat → Int32 :=
  mkG (if turnG G w = true then (if gwr G (tW (G 0) w) < R 2 then nW (G 0) w else G 0) else nW (G 0) w) (nW (G 1) w) (G 2) w
    (if turnG G w = true then (if 12 < G 4 + 1 then 12 else G 4 + 1) else G 4) (if G 5 - 1 < 0 then 0 else G 5 - 1) (G 6 + 1)
    (if turnG G w = true then (if gwr G (tW (G 0) w) < R 2 then G 7 else G 7 + 1) else G 7) (G 8 + tollG G R w) (if turnG G w = true then G 9 + 1 else G 9) (G 10)
    (wsF (fun k => G (k + 11)) (tW (G 0) w) (if 99 < gwr G (tW (G 0) w) + R 0 then 99 else gwr G (tW (G 0) w) + R 0))
/-- a step as the class makes it: its answer, and the gear behind it -/
def msR (G R : Nat → Int32) (w pu : Int32) : Int32 := if pu < tollG G R w then 0 else tollG G R w
def msG (G R : Nat → Int32) (w pu : Int32) : Nat → Int32 := if pu < tollG G R w then G else stepG G R w
def hm1 (G : Nat → Int32) : Nat → Int32 := mkG (G 0) 0 (G 2) 0 0 (G 5) (G 6) (G 7) (G 8) (G 9) (G 10 + 1) (fun t => G (t + 11))
def hmL (R : Nat → Int32) (pu : Int32) : Nat → (Nat → Int32) → Int32 → Int32 × (Nat → Int32)
  | 0, G, pd => (pd, G)
  | k + 1, G, pd => if G 0 = 0 then (pd, G) else if msR G R (-1) (pu - pd) = 0 then (pd, msG G R (-1) (pu - pd)) else hmL R pu k (msG G R (-1) (pu - pd)) (pd + msR G R (-1) (pu - pd))
def hmP (G R : Nat → Int32) (pu : Int32) : Int32 := (hmL R pu 40 G 0).1
def hmG (G R : Nat → Int32) (pu : Int32) : Nat → Int32 := if (hmL R pu 40 G 0).2 0 = 0 then hm1 (hmL R pu 40 G 0).2 else (hmL R pu 40 G 0).2
def coL (G R : Nat → Int32) (tg w wo : Int32) : Nat → Int32 → Int32 → Int32 → Int32
  | 0, _, _, sm => sm
  | k + 1, q, md, sm => if q = tg then sm else coL G R tg w wo k (nW q w) (md + 1) (sm + tlF (G 2) (if tW q w = wo then 0 else gwr G (tW q w)) (G 5 - md) (R 1))
def costG (G R : Nat → Int32) (tg w wo : Int32) : Int32 := coL G R tg w wo 24 (G 1) 0 0
def ppL (G : Nat → Int32) : Nat → Int32 → Int32 → Int32
  | 0, _, bm => bm
  | k + 1, cd, bm => ppL G k (cd + 1) (if G 4 < dist cd (G 1) then bm else bm ||| (1 <<< (cd &&& 31)))
def possG (G : Nat → Int32) : Int32 := ppL G 24 0 0
def propG (G : Nat → Int32) (w : Int32) : Int32 :=
  if w = 0 then G 0 else if w = 1 then G 1 else if w = 2 then G 2 else if w = 3 then G 3 else if w = 4 then G 4 else if w = 5 then G 5 else if w = 6 then G 6 else if w = 7 then G 7 else if w = 8 then G 8 else if w = 9 then dist (G 0) (G 1) else if w = 10 then G 9 else G 10
theorem cnt_nge {x k : Int32} {j N : Nat} (e : x = nI j) (hk : nI N = k) (hN : N < 2 ^ 31) (h : j < N) : ¬ k ≤ x := by
  subst e; subst hk
  exact nI_ge h hN
theorem cnt_ge {x k : Int32} {j N : Nat} (e : x = nI j) (hk : nI N = k) (hj : j < 2 ^ 31) (h : N ≤ j) : k ≤ x := by
  subst e; subst hk
  exact nI_le h hj
theorem bI_n0 {b : Bool} (h : ¬ bI b = 0) : b = true := by
  cases b
  · exact absurd rfl h
  · rfl
theorem bI_n (b : Bool) {r : Bool} (h : b = r) (hr : r = true) : ¬ bI b = 0 := by subst h; subst hr; decide
theorem arrV_congr {c N : Nat} {f g : Nat → Value} (h : ∀ j, j < N → f j = g j) : arrV c N f = arrV c N g := by
  have e : (Array.ofFn (n := N) fun j => f j.val) = Array.ofFn (n := N) fun j => g j.val := congrArg Array.ofFn (funext fun j => h j.val j.isLt)
  show ({ cls := c, slots := Array.ofFn (n := N) fun j => f j.val, vm := .none } : Cell) = { cls := c, slots := Array.ofFn (n := N) fun j => g j.val, vm := .none }
  rw [e]
/-- the contents of an array of ints matter below its length alone -/
theorem va_P.ints {D : va_G} {cl : List vw_C} {ws : va_W} {H : Heap} (h : va_P D cl ws H) (k : Nat) {a c n : Nat} {f : Nat → Int32} (g : Nat → Int32) (hk : ws[k]? = some (a, .inl (c, n, .inl f))) (hfg : ∀ j, j < n → f j = g j) : va_P D cl (ws.set k (a, .inl (c, n, .inl g))) H := by
  intro i q hq
  by_cases hi : i = k
  · subst hi
    have hl := (List.getElem?_eq_some_iff.mp hk).1
    rw [List.getElem?_set_self hl] at hq
    cases hq
    have h1 := h i _ hk
    show H[a]? = some (vp_cell c (n, .inl g))
    have h2 : H[a]? = some (vp_cell c (n, .inl f)) := h1
    rw [h2]
    exact congrArg some (show arrV c n (fun j => .int (f j)) = arrV c n (fun j => .int (g j)) from arrV_congr (fun j hj => congrArg Value.int (hfg j hj)))
  · rw [List.getElem?_set_ne (fun h => hi h.symm)] at hq
    exact h i q hq
end
section
theorem hd_X0_nextPlace : yX0_nextPlace.cls ≠ "java/lang/invoke/MethodHandle" ∧ yX0_nextPlace.cls ≠ "java/lang/invoke/VarHandle" ∧ (parseMethodDescriptor yX0_nextPlace.desc).map (fun d => d.parameters.length) = some 2 := by decide +kernel
set_option maxRecDepth 100000 in
set_option maxHeartbeats 4000000 in
theorem m_X0_nextPlace (l : Launch) (D : va_G) (kA : Nat → Nat) (p0 : Int32) (p1 : Int32) : Met l yX0_nextPlace (Cond.code yX0_nextPlace cX0_nextPlace 3 (some .int) :: AW) ({ frames := 0, cells := 0, slots := 0, locals := 0 } : Room) (Pz [.int p0, .int p1] D (TY kA) []) (pQ (some (.int (nW p0 p1)))) 0 0 (fun _ => False) := by
  refine MetZ (by decide +kernel) (Nat.le_of_ble_eq_true rfl) ?_
  intro p e s m below meth c ls hx hb hrt hts hown hml hlk hnm hP hK hD hS hl
  have hl : lv_has ls 3 [(0, .int p0), (1, .int p1)] := hl
  refine lv_iload_n hx hb dX0_nextPlace_0 rfl (lv_at hl 0 rfl) ?_
  refine lv_iload_n hx hb dX0_nextPlace_1 rfl (lv_at hl 1 rfl) ?_
  refine lv_iadd hx hb dX0_nextPlace_2 ?_
  refine lv_istore_n (lv' := [(2, .int (p0 + p1)), (0, .int p0), (1, .int p1)]) hx hb dX0_nextPlace_3 rfl hl (by decide) rfl (fun ls hl => ?_)
  refine lv_iload_n hx hb dX0_nextPlace_4 rfl (lv_at hl 0 rfl) ?_
  refine lv_if_ge (tgt := 11) hx hb dX0_nextPlace_5 (by decide) (fun c_1 => ?_) (fun c_1 => ?_)
  · skip
    replace c_1 := ge_n c_1
    refine lv_iload_n hx hb dX0_nextPlace_11 rfl (lv_at hl 0 rfl) ?_
    refine lv_bipush (v := 24) hx hb dX0_nextPlace_12 (by decide) ?_
    refine lv_icmp_ge (tgt := 21) hx hb dX0_nextPlace_14 (by decide) (fun c_2 => ?_) (fun c_2 => ?_)
    · skip
      replace c_2 := ge_n c_2
      refine lv_iconst (v := 0) hx hb dX0_nextPlace_21 (by decide) ?_
      exact end_pi hx hb hrt hlk (by first | rfl | (simp only [nW, c_1, c_2, ↓reduceIte, bI]; done) | (simp only [nW, c_1, c_2, ↓reduceIte, bI]; rfl) | (simp [nW, c_1, c_2, bI]; done)) dX0_nextPlace_22
    · skip
      replace c_2 := nge_l c_2
      refine lv_iload_n hx hb dX0_nextPlace_17 rfl (lv_at hl 0 rfl) ?_
      refine lv_goto (tgt := 22) hx hb dX0_nextPlace_18 (by decide) ?_
      exact end_pi hx hb hrt hlk (by first | rfl | (simp only [nW, c_1, c_2, ↓reduceIte, bI]; done) | (simp only [nW, c_1, c_2, ↓reduceIte, bI]; rfl) | (simp [nW, c_1, c_2, bI]; done)) dX0_nextPlace_22
  · skip
    replace c_1 := nge_l c_1
    refine lv_bipush (v := 23) hx hb dX0_nextPlace_8 (by decide) ?_
    exact end_pi hx hb hrt hlk (by first | rfl | (simp only [nW, c_1, ↓reduceIte, bI]; done) | (simp only [nW, c_1, ↓reduceIte, bI]; rfl) | (simp [nW, c_1, bI]; done)) dX0_nextPlace_10

theorem hd_X0_toothBy : yX0_toothBy.cls ≠ "java/lang/invoke/MethodHandle" ∧ yX0_toothBy.cls ≠ "java/lang/invoke/VarHandle" ∧ (parseMethodDescriptor yX0_toothBy.desc).map (fun d => d.parameters.length) = some 2 := by decide +kernel
set_option maxRecDepth 100000 in
set_option maxHeartbeats 4000000 in
theorem m_X0_toothBy (l : Launch) (D : va_G) (kA : Nat → Nat) (p0 : Int32) (p1 : Int32) : Met l yX0_toothBy (Cond.code yX0_toothBy cX0_toothBy 2 (some .int) :: AW) ({ frames := 0, cells := 0, slots := 0, locals := 0 } : Room) (Pz [.int p0, .int p1] D (TY kA) []) (pQ (some (.int (tW p0 p1)))) 0 0 (fun _ => False) := by
  refine MetZ (by decide +kernel) (Nat.le_of_ble_eq_true rfl) ?_
  intro p e s m below meth c ls hx hb hrt hts hown hml hlk hnm hP hK hD hS hl
  have hl : lv_has ls 2 [(0, .int p0), (1, .int p1)] := hl
  refine lv_iload_n hx hb dX0_toothBy_0 rfl (lv_at hl 1 rfl) ?_
  refine lv_iconst (v := 1) hx hb dX0_toothBy_1 (by decide) ?_
  refine lv_icmp_ne (tgt := 7) hx hb dX0_toothBy_2 (by decide) (fun c_1 => ?_) (fun c_1 => ?_)
  · skip
    refine lv_iload_n hx hb dX0_toothBy_7 rfl (lv_at hl 0 rfl) ?_
    refine lv_if_le (tgt := 17) hx hb dX0_toothBy_8 (by decide) (fun c_2 => ?_) (fun c_2 => ?_)
    · skip
      replace c_2 := ge_n c_2
      refine lv_bipush (v := 23) hx hb dX0_toothBy_17 (by decide) ?_
      exact end_pi hx hb hrt hlk (by first | rfl | (simp only [tW, c_1, c_2, ↓reduceIte, bI]; done) | (simp only [tW, c_1, c_2, ↓reduceIte, bI]; rfl) | (simp [tW, c_1, c_2, bI]; done)) dX0_toothBy_19
    · skip
      replace c_2 := nge_l c_2
      refine lv_iload_n hx hb dX0_toothBy_11 rfl (lv_at hl 0 rfl) ?_
      refine lv_iconst (v := 1) hx hb dX0_toothBy_12 (by decide) ?_
      refine lv_isub hx hb dX0_toothBy_13 ?_
      refine lv_goto (tgt := 19) hx hb dX0_toothBy_14 (by decide) ?_
      exact end_pi hx hb hrt hlk (by first | rfl | (simp only [tW, c_1, c_2, ↓reduceIte, bI]; done) | (simp only [tW, c_1, c_2, ↓reduceIte, bI]; rfl) | (simp [tW, c_1, c_2, bI]; done)) dX0_toothBy_19
  · skip
    refine lv_iload_n hx hb dX0_toothBy_5 rfl (lv_at hl 0 rfl) ?_
    exact end_pi hx hb hrt hlk (by first | rfl | (simp only [tW, c_1, ↓reduceIte, bI]; done) | (simp only [tW, c_1, ↓reduceIte, bI]; rfl) | (simp [tW, c_1, bI]; done)) dX0_toothBy_6

theorem hd_J9_floorMod_7cf53 : yJ9_floorMod_7cf53.cls ≠ "java/lang/invoke/MethodHandle" ∧ yJ9_floorMod_7cf53.cls ≠ "java/lang/invoke/VarHandle" ∧ (parseMethodDescriptor yJ9_floorMod_7cf53.desc).map (fun d => d.parameters.length) = some 2 := by decide +kernel
set_option maxRecDepth 100000 in
set_option maxHeartbeats 4000000 in
theorem m_J9_floorMod_7cf53 (l : Launch) (D : va_G) (kA : Nat → Nat) (p0 : Int32) (p1 : Int32) (hne : ¬ p1 = 0) : Met l yJ9_floorMod_7cf53 (Cond.code yJ9_floorMod_7cf53 cJ9_floorMod_7cf53 3 (some .int) :: AW) ({ frames := 0, cells := 0, slots := 0, locals := 0 } : Room) (Pz [.int p0, .int p1] D (TY kA) []) (pQ (some (.int (fM p0 p1)))) 0 0 (fun _ => False) := by
  refine MetZ (by decide +kernel) (Nat.le_of_ble_eq_true rfl) ?_
  intro p e s m below meth c ls hx hb hrt hts hown hml hlk hnm hP hK hD hS hl
  have hl : lv_has ls 3 [(0, .int p0), (1, .int p1)] := hl
  refine lv_iload_n hx hb dJ9_floorMod_7cf53_0 rfl (lv_at hl 0 rfl) ?_
  refine lv_iload_n hx hb dJ9_floorMod_7cf53_1 rfl (lv_at hl 1 rfl) ?_
  refine lv_irem hx hb dJ9_floorMod_7cf53_2 (hne) ?_
  refine lv_istore_n (lv' := [(2, .int (p0 - p0 / p1 * p1)), (0, .int p0), (1, .int p1)]) hx hb dJ9_floorMod_7cf53_3 rfl hl (by decide) rfl (fun ls hl => ?_)
  refine lv_iload_n hx hb dJ9_floorMod_7cf53_4 rfl (lv_at hl 1 rfl) ?_
  refine lv_iload_n hx hb dJ9_floorMod_7cf53_5 rfl (lv_at hl 2 rfl) ?_
  refine lv_ixor hx hb dJ9_floorMod_7cf53_6 ?_
  refine lv_if_ge (tgt := 18) hx hb dJ9_floorMod_7cf53_7 (by decide) (fun c_1 => ?_) (fun c_1 => ?_)
  · skip
    replace c_1 := ge_n c_1
    refine lv_iload_n hx hb dJ9_floorMod_7cf53_18 rfl (lv_at hl 0 rfl) ?_
    exact end_pi hx hb hrt hlk (by first | rfl | (simp only [fM, c_1, ↓reduceIte, bI]; done) | (simp only [fM, c_1, ↓reduceIte, bI]; rfl) | (simp [fM, c_1, bI]; done)) dJ9_floorMod_7cf53_19
  · skip
    replace c_1 := nge_l c_1
    refine lv_iload_n hx hb dJ9_floorMod_7cf53_10 rfl (lv_at hl 0 rfl) ?_
    refine lv_if_eq (tgt := 18) hx hb dJ9_floorMod_7cf53_11 (by decide) (fun c_2 => ?_) (fun c_2 => ?_)
    · skip
      refine lv_iload_n hx hb dJ9_floorMod_7cf53_18 rfl (lv_at hl 0 rfl) ?_
      exact end_pi hx hb hrt hlk (by first | rfl | (simp only [fM, c_1, c_2, ↓reduceIte, bI]; done) | (simp only [fM, c_1, c_2, ↓reduceIte, bI]; rfl) | (simp [fM, c_1, c_2, bI]; done)) dJ9_floorMod_7cf53_19
    · skip
      refine lv_iload_n hx hb dJ9_floorMod_7cf53_14 rfl (lv_at hl 0 rfl) ?_
      refine lv_iload_n hx hb dJ9_floorMod_7cf53_15 rfl (lv_at hl 2 rfl) ?_
      refine lv_iadd hx hb dJ9_floorMod_7cf53_16 ?_
      exact end_pi hx hb hrt hlk (by first | rfl | (simp only [fM, c_1, c_2, ↓reduceIte, bI]; done) | (simp only [fM, c_1, c_2, ↓reduceIte, bI]; rfl) | (simp [fM, c_1, c_2, bI]; done)) dJ9_floorMod_7cf53_17

theorem hd_X0_distance : yX0_distance.cls ≠ "java/lang/invoke/MethodHandle" ∧ yX0_distance.cls ≠ "java/lang/invoke/VarHandle" ∧ (parseMethodDescriptor yX0_distance.desc).map (fun d => d.parameters.length) = some 2 := by decide +kernel
set_option maxRecDepth 100000 in
set_option maxHeartbeats 4000000 in
theorem m_X0_distance (l : Launch) (D : va_G) (kA : Nat → Nat) (p0 : Int32) (p1 : Int32) : Met l yX0_distance (Cond.code yX0_distance cX0_distance 3 (some .int) :: AW) ({ frames := 1, cells := 0, slots := 0, locals := 22 } : Room) (Pz [.int p0, .int p1] D (TY kA) []) (pQ (some (.int (dist p0 p1)))) 0 0 (fun _ => False) := by
  refine MetZ (by decide +kernel) (Nat.le_of_ble_eq_true rfl) ?_
  intro p e s m below meth c ls hx hb hrt hts hown hml hlk hnm hP hK hD hS hl
  have hl : lv_has ls 3 [(0, .int p0), (1, .int p1)] := hl
  refine lv_iload_n hx hb dX0_distance_0 rfl (lv_at hl 1 rfl) ?_
  refine lv_iload_n hx hb dX0_distance_1 rfl (lv_at hl 0 rfl) ?_
  refine lv_isub hx hb dX0_distance_2 ?_
  refine lv_bipush (v := 24) hx hb dX0_distance_3 (by decide) ?_
  refine cs_p (runS (As := [.int (p1 - p0), .int 24]) (rest := []) ⟨hx, hb, hml, hown, hts⟩ (m_J9_floorMod_7cf53 l D kA (p1 - p0) 24 (by decide)) q_258 q_259 q_13 q_260 hd_J9_floorMod_7cf53 ⟨rfl, rfl⟩ ⟨Nat.le_of_ble_eq_true rfl, Nat.le_of_ble_eq_true rfl⟩ hK (ws := []) (hP.sub [] rfl) (hD.sub [] (by decide) rfl) rfl hl.1 rfl (Nat.le_of_ble_eq_true rfl) dX0_distance_5 ⟨Nat.zero_le _, Nat.zero_le _⟩) ?_
  refine lv_istore_n (lv' := [(2, .int (fM (p1 - p0) 24)), (0, .int p0), (1, .int p1)]) hx hb dX0_distance_8 rfl hl (by decide) rfl (fun ls hl => ?_)
  refine lv_iload_n hx hb dX0_distance_9 rfl (lv_at hl 0 rfl) ?_
  refine lv_bipush (v := 24) hx hb dX0_distance_10 (by decide) ?_
  refine lv_iload_n hx hb dX0_distance_12 rfl (lv_at hl 0 rfl) ?_
  refine lv_isub hx hb dX0_distance_13 ?_
  refine va_mmin hx hb (hml.trans hl.1.symm) hown (hts _ q_261) (hts _ q_262) (hts _ q_13) (hts _ q_263) (Nat.le_of_ble_eq_true rfl) (Nat.le_of_ble_eq_true rfl) (Nat.zero_le _) (Nat.zero_le _) dX0_distance_14 ?_
  exact end_pi hx hb hrt hlk (by first | rfl | (simp only [dist, ↓reduceIte, bI]; done) | (simp only [dist, ↓reduceIte, bI]; rfl) | (simp [dist, bI]; done)) dX0_distance_17

theorem hd_X0_wearOf : yX0_wearOf.cls ≠ "java/lang/invoke/MethodHandle" ∧ yX0_wearOf.cls ≠ "java/lang/invoke/VarHandle" ∧ (parseMethodDescriptor yX0_wearOf.desc).map (fun d => d.parameters.length) = some 1 := by decide +kernel
set_option maxRecDepth 100000 in
set_option maxHeartbeats 4000000 in
theorem m_X0_wearOf (l : Launch) (D : va_G) (kA : Nat → Nat) (h0 : Nat) (hw : Nat) (f0 : Int32) (f1 : Int32) (f2 : Int32) (f3 : Int32) (f4 : Int32) (f5 : Int32) (f6 : Int32) (f7 : Int32) (f8 : Int32) (f9 : Int32) (f10 : Int32) (fw : Nat → Int32) (p0 : Int32) : Met l yX0_wearOf (Cond.code yX0_wearOf cX0_wearOf 2 (some .int) :: AW) ({ frames := 0, cells := 0, slots := 0, locals := 0 } : Room) (Pz [.ref h0, .int p0] D (TY kA) [(h0, .inr (0, [.ref hw, .int f0, .int f1, .int f2, .int f3, .int f4, .int f5, .int f6, .int f7, .int f8, .int f9, .int f10])), (hw, .inl (kA 0, 24, .inl fw))]) (pQ (some (.int (wrF fw p0)))) 0 0 (fun _ => False) := by
  refine MetZ (by decide +kernel) (Nat.le_of_ble_eq_true rfl) ?_
  intro p e s m below meth c ls hx hb hrt hts hown hml hlk hnm hP hK hD hS hl
  have hl : lv_has ls 2 [(0, .ref h0), (1, .int p0)] := hl
  refine lv_iload_n hx hb dX0_wearOf_0 rfl (lv_at hl 1 rfl) ?_
  refine lv_if_lt (tgt := 22) hx hb dX0_wearOf_1 (by decide) (fun c_1 => ?_) (fun c_1 => ?_)
  · skip
    refine lv_iconst (v := 0) hx hb dX0_wearOf_22 (by decide) ?_
    exact end_pi hx hb hrt hlk (by first | rfl | (simp only [wrF, c_1, ↓reduceIte, bI]; done) | (simp only [wrF, c_1, ↓reduceIte, bI]; rfl) | (simp [wrF, c_1, bI]; done)) dX0_wearOf_23
  · skip
    refine lv_iload_n hx hb dX0_wearOf_4 rfl (lv_at hl 1 rfl) ?_
    refine lv_aload_n hx hb dX0_wearOf_5 rfl (lv_at hl 0 rfl) ?_
    refine va_get (ci := 0) (v := .ref hw) (C := RX0) (T := TX0) (N := 12) hx hb hts inX0 hown hK hP 0 rfl rfl 0 (by decide) (hts _ q_70) (fun _ h9 => h9) rfl dX0_wearOf_6 ?_
    refine va_alen (v := 24) hx hb hK hP 1 0 rfl rfl rfl dX0_wearOf_9 ?_
    refine lv_icmp_ge (tgt := 22) hx hb dX0_wearOf_10 (by decide) (fun c_2 => ?_) (fun c_2 => ?_)
    · skip
      replace c_2 := ge_n c_2
      refine lv_iconst (v := 0) hx hb dX0_wearOf_22 (by decide) ?_
      exact end_pi hx hb hrt hlk (by first | rfl | (simp only [wrF, c_1, c_2, ↓reduceIte, bI]; done) | (simp only [wrF, c_1, c_2, ↓reduceIte, bI]; rfl) | (simp [wrF, c_1, c_2, bI]; done)) dX0_wearOf_23
    · skip
      replace c_2 := nge_l c_2
      refine lv_aload_n hx hb dX0_wearOf_13 rfl (lv_at hl 0 rfl) ?_
      refine va_get (ci := 0) (v := .ref hw) (C := RX0) (T := TX0) (N := 12) hx hb hts inX0 hown hK hP 0 rfl rfl 0 (by decide) (hts _ q_70) (fun _ h9 => h9) rfl dX0_wearOf_14 ?_
      refine lv_iload_n hx hb dX0_wearOf_17 rfl (lv_at hl 1 rfl) ?_
      refine va_iald (f := fw) hx hb hK hP 1 0 rfl rfl (in_of c_1 c_2 rfl) dX0_wearOf_18 ?_
      refine lv_goto (tgt := 23) hx hb dX0_wearOf_19 (by decide) ?_
      exact end_pi hx hb hrt hlk (by first | rfl | (simp only [wrF, c_1, c_2, ↓reduceIte, bI]; done) | (simp only [wrF, c_1, c_2, ↓reduceIte, bI]; rfl) | (simp [wrF, c_1, c_2, bI]; done)) dX0_wearOf_23

theorem hd_X0_setWear : yX0_setWear.cls ≠ "java/lang/invoke/MethodHandle" ∧ yX0_setWear.cls ≠ "java/lang/invoke/VarHandle" ∧ (parseMethodDescriptor yX0_setWear.desc).map (fun d => d.parameters.length) = some 2 := by decide +kernel
set_option maxRecDepth 100000 in
set_option maxHeartbeats 4000000 in
theorem m_X0_setWear (l : Launch) (D : va_G) (kA : Nat → Nat) (h0 : Nat) (hw : Nat) (f0 : Int32) (f1 : Int32) (f2 : Int32) (f3 : Int32) (f4 : Int32) (f5 : Int32) (f6 : Int32) (f7 : Int32) (f8 : Int32) (f9 : Int32) (f10 : Int32) (fw : Nat → Int32) (p0 : Int32) (p1 : Int32) : Met l yX0_setWear (Cond.code yX0_setWear cX0_setWear 3 none :: AW) ({ frames := 0, cells := 0, slots := 0, locals := 0 } : Room) (Pz [.ref h0, .int p0, .int p1] D (TY kA) [(h0, .inr (0, [.ref hw, .int f0, .int f1, .int f2, .int f3, .int f4, .int f5, .int f6, .int f7, .int f8, .int f9, .int f10])), (hw, .inl (kA 0, 24, .inl fw))]) (fQ none D [(h0, .inr (0, [.ref hw, .int f0, .int f1, .int f2, .int f3, .int f4, .int f5, .int f6, .int f7, .int f8, .int f9, .int f10])), (hw, .inl (kA 0, 24, .inl fw))] [(h0, .inr (0, [.ref hw, .int f0, .int f1, .int f2, .int f3, .int f4, .int f5, .int f6, .int f7, .int f8, .int f9, .int f10])), (hw, .inl (kA 0, 24, .inl (wsF fw p0 p1)))]) 0 0 (Aw [(h0, .inr (0, [.ref hw, .int f0, .int f1, .int f2, .int f3, .int f4, .int f5, .int f6, .int f7, .int f8, .int f9, .int f10])), (hw, .inl (kA 0, 24, .inl fw))]) := by
  refine MetZ (by decide +kernel) (Nat.le_of_ble_eq_true rfl) ?_
  intro p e s m below meth c ls hx hb hrt hts hown hml hlk hnm hP hK hD hS hl
  have hl : lv_has ls 3 [(0, .ref h0), (1, .int p0), (2, .int p1)] := hl
  refine lv_iload_n hx hb dX0_setWear_0 rfl (lv_at hl 1 rfl) ?_
  refine lv_if_lt (tgt := 20) hx hb dX0_setWear_1 (by decide) (fun c_1 => ?_) (fun c_1 => ?_)
  · skip
    have hP : va_P D vwCl [(h0, .inr (0, [.ref hw, .int f0, .int f1, .int f2, .int f3, .int f4, .int f5, .int f6, .int f7, .int f8, .int f9, .int f10])), (hw, .inl (kA 0, 24, .inl fw))] _ := hP.sub [0, 1] rfl
    exact end_fv hx hb hrt hlk hP hS (by intro h; simpa only [wsF, c_1, ↓reduceIte] using h) dX0_setWear_20
  · skip
    refine lv_iload_n hx hb dX0_setWear_4 rfl (lv_at hl 1 rfl) ?_
    refine lv_aload_n hx hb dX0_setWear_5 rfl (lv_at hl 0 rfl) ?_
    refine va_get (ci := 0) (v := .ref hw) (C := RX0) (T := TX0) (N := 12) hx hb hts inX0 hown hK hP 0 rfl rfl 0 (by decide) (hts _ q_70) (fun _ h9 => h9) rfl dX0_setWear_6 ?_
    refine va_alen (v := 24) hx hb hK hP 1 0 rfl rfl rfl dX0_setWear_9 ?_
    refine lv_icmp_ge (tgt := 20) hx hb dX0_setWear_10 (by decide) (fun c_2 => ?_) (fun c_2 => ?_)
    · skip
      replace c_2 := ge_n c_2
      have hP : va_P D vwCl [(h0, .inr (0, [.ref hw, .int f0, .int f1, .int f2, .int f3, .int f4, .int f5, .int f6, .int f7, .int f8, .int f9, .int f10])), (hw, .inl (kA 0, 24, .inl fw))] _ := hP.sub [0, 1] rfl
      exact end_fv hx hb hrt hlk hP hS (by intro h; simpa only [wsF, c_1, c_2, ↓reduceIte] using h) dX0_setWear_20
    · skip
      replace c_2 := nge_l c_2
      refine lv_aload_n hx hb dX0_setWear_13 rfl (lv_at hl 0 rfl) ?_
      refine va_get (ci := 0) (v := .ref hw) (C := RX0) (T := TX0) (N := 12) hx hb hts inX0 hown hK hP 0 rfl rfl 0 (by decide) (hts _ q_70) (fun _ h9 => h9) rfl dX0_setWear_14 ?_
      refine lv_iload_n hx hb dX0_setWear_17 rfl (lv_at hl 1 rfl) ?_
      refine lv_iload_n hx hb dX0_setWear_18 rfl (lv_at hl 2 rfl) ?_
      refine va_iast (f := fw) hx hb hK hP hD hS 1 0 rfl rfl (in_of c_1 c_2 rfl) dX0_setWear_19 (fun H locs hP hD hS => ?_)
      have hP : va_P D vwCl [(h0, .inr (0, [.ref hw, .int f0, .int f1, .int f2, .int f3, .int f4, .int f5, .int f6, .int f7, .int f8, .int f9, .int f10])), (hw, .inl (kA 0, 24, .inl (upd fw p0.toNatClampNeg p1)))] H := hP
      have hD : va_D (Aw [(h0, .inr (0, [.ref hw, .int f0, .int f1, .int f2, .int f3, .int f4, .int f5, .int f6, .int f7, .int f8, .int f9, .int f10])), (hw, .inl (kA 0, 24, .inl fw))]) [(h0, .inr (0, [.ref hw, .int f0, .int f1, .int f2, .int f3, .int f4, .int f5, .int f6, .int f7, .int f8, .int f9, .int f10])), (hw, .inl (kA 0, 24, .inl (upd fw p0.toNatClampNeg p1)))] := hD
      have hP : va_P D vwCl [(h0, .inr (0, [.ref hw, .int f0, .int f1, .int f2, .int f3, .int f4, .int f5, .int f6, .int f7, .int f8, .int f9, .int f10])), (hw, .inl (kA 0, 24, .inl (upd fw p0.toNatClampNeg p1)))] _ := hP.sub [0, 1] rfl
      exact end_fv hx hb hrt hlk hP hS (by intro h; simpa only [wsF, c_1, c_2, ↓reduceIte] using h) dX0_setWear_20

theorem hd_X0_tollWith : yX0_tollWith.cls ≠ "java/lang/invoke/MethodHandle" ∧ yX0_tollWith.cls ≠ "java/lang/invoke/VarHandle" ∧ (parseMethodDescriptor yX0_tollWith.desc).map (fun d => d.parameters.length) = some 3 := by decide +kernel
set_option maxRecDepth 100000 in
set_option maxHeartbeats 4000000 in
theorem m_X0_tollWith (l : Launch) (D : va_G) (kA : Nat → Nat) (h0 : Nat) (hw : Nat) (f0 : Int32) (f1 : Int32) (f2 : Int32) (f3 : Int32) (f4 : Int32) (f5 : Int32) (f6 : Int32) (f7 : Int32) (f8 : Int32) (f9 : Int32) (f10 : Int32) (h9 : Nat) (r0 : Int32) (r1 : Int32) (r2 : Int32) (r3 : Int32) (r4 : Int32) (r5 : Int32) (p0 : Int32) (p1 : Int32) : Met l yX0_tollWith (Cond.code yX0_tollWith cX0_tollWith 5 (some .int) :: AW) ({ frames := 0, cells := 0, slots := 0, locals := 0 } : Room) (Pz [.ref h0, .int p0, .int p1, .ref h9] D (TY kA) [(h0, .inr (0, [.ref hw, .int f0, .int f1, .int f2, .int f3, .int f4, .int f5, .int f6, .int f7, .int f8, .int f9, .int f10])), (h9, .inr (3, [.int r0, .int r1, .int r2, .int r3, .int r4, .int r5]))]) (pQ (some (.int (tlF f2 p0 p1 r1)))) 0 0 (fun _ => False) := by
  refine MetZ (by decide +kernel) (Nat.le_of_ble_eq_true rfl) ?_
  intro p e s m below meth c ls hx hb hrt hts hown hml hlk hnm hP hK hD hS hl
  have hl : lv_has ls 5 [(0, .ref h0), (1, .int p0), (2, .int p1), (3, .ref h9)] := hl
  refine lv_iconst (v := 1) hx hb dX0_tollWith_0 (by decide) ?_
  refine lv_aload_n hx hb dX0_tollWith_1 rfl (lv_at hl 0 rfl) ?_
  refine va_get (ci := 0) (v := .int f2) (C := RX0) (T := TX0) (N := 12) hx hb hts inX0 hown hK hP 0 rfl rfl 3 (by decide) (hts _ q_77) (fun _ h9 => h9) rfl dX0_tollWith_2 ?_
  refine lv_iadd hx hb dX0_tollWith_5 ?_
  refine lv_istore (lv' := [(4, .int (1 + f2)), (0, .ref h0), (1, .int p0), (2, .int p1), (3, .ref h9)]) hx hb dX0_tollWith_6 hl (by decide) rfl (fun ls hl => ?_)
  refine lv_aload_n hx hb dX0_tollWith_8 rfl (lv_at hl 4 rfl) ?_
  refine va_get (ci := 3) (v := .int r1) (C := RX3) (T := TX3) (N := 6) hx hb hts inX3 hown hK hP 1 rfl rfl 1 (by decide) (hts _ q_40) (fun _ h9 => h9) rfl dX0_tollWith_9 ?_
  refine lv_if_le (tgt := 26) hx hb dX0_tollWith_12 (by decide) (fun c_1 => ?_) (fun c_1 => ?_)
  · skip
    replace c_1 := ge_n c_1
    refine lv_iload_n hx hb dX0_tollWith_26 rfl (lv_at hl 3 rfl) ?_
    refine lv_if_le (tgt := 39) hx hb dX0_tollWith_27 (by decide) (fun c_2 => ?_) (fun c_2 => ?_)
    · skip
      replace c_2 := ge_n c_2
      refine lv_iload hx hb dX0_tollWith_39 (lv_at hl 0 rfl) ?_
      exact end_pi hx hb hrt hlk (by first | rfl | (simp only [tlF, c_1, c_2, ↓reduceIte, bI]; done) | (simp only [tlF, c_1, c_2, ↓reduceIte, bI]; rfl) | (simp [tlF, c_1, c_2, bI]; done)) dX0_tollWith_41
    · skip
      replace c_2 := nge_l c_2
      refine lv_iload hx hb dX0_tollWith_30 (lv_at hl 0 rfl) ?_
      refine lv_iconst (v := 1) hx hb dX0_tollWith_32 (by decide) ?_
      refine lv_iadd hx hb dX0_tollWith_33 ?_
      refine lv_iconst (v := 2) hx hb dX0_tollWith_34 (by decide) ?_
      refine lv_idiv hx hb dX0_tollWith_35 (by decide) ?_
      refine lv_goto (tgt := 41) hx hb dX0_tollWith_36 (by decide) ?_
      exact end_pi hx hb hrt hlk (by first | rfl | (simp only [tlF, c_1, c_2, ↓reduceIte, bI]; done) | (simp only [tlF, c_1, c_2, ↓reduceIte, bI]; rfl) | (simp [tlF, c_1, c_2, bI]; done)) dX0_tollWith_41
  · skip
    replace c_1 := nge_l c_1
    refine lv_iload hx hb dX0_tollWith_15 (lv_at hl 0 rfl) ?_
    refine lv_iload_n hx hb dX0_tollWith_17 rfl (lv_at hl 2 rfl) ?_
    refine lv_aload_n hx hb dX0_tollWith_18 rfl (lv_at hl 4 rfl) ?_
    refine va_get (ci := 3) (v := .int r1) (C := RX3) (T := TX3) (N := 6) hx hb hts inX3 hown hK hP 1 rfl rfl 1 (by decide) (hts _ q_40) (fun _ h9 => h9) rfl dX0_tollWith_19 ?_
    refine lv_idiv hx hb dX0_tollWith_22 (fun h => by rw [h] at c_1; exact absurd c_1 (by decide)) ?_
    refine lv_iadd hx hb dX0_tollWith_23 ?_
    refine lv_istore (lv' := [(4, .int ((1 + f2) + (p0 / r1))), (0, .ref h0), (1, .int p0), (2, .int p1), (3, .ref h9)]) hx hb dX0_tollWith_24 hl (by decide) rfl (fun ls hl => ?_)
    refine lv_iload_n hx hb dX0_tollWith_26 rfl (lv_at hl 3 rfl) ?_
    refine lv_if_le (tgt := 39) hx hb dX0_tollWith_27 (by decide) (fun c_3 => ?_) (fun c_3 => ?_)
    · skip
      replace c_3 := ge_n c_3
      refine lv_iload hx hb dX0_tollWith_39 (lv_at hl 0 rfl) ?_
      exact end_pi hx hb hrt hlk (by first | rfl | (simp only [tlF, c_1, c_3, ↓reduceIte, bI]; done) | (simp only [tlF, c_1, c_3, ↓reduceIte, bI]; rfl) | (simp [tlF, c_1, c_3, bI]; done)) dX0_tollWith_41
    · skip
      replace c_3 := nge_l c_3
      refine lv_iload hx hb dX0_tollWith_30 (lv_at hl 0 rfl) ?_
      refine lv_iconst (v := 1) hx hb dX0_tollWith_32 (by decide) ?_
      refine lv_iadd hx hb dX0_tollWith_33 ?_
      refine lv_iconst (v := 2) hx hb dX0_tollWith_34 (by decide) ?_
      refine lv_idiv hx hb dX0_tollWith_35 (by decide) ?_
      refine lv_goto (tgt := 41) hx hb dX0_tollWith_36 (by decide) ?_
      exact end_pi hx hb hrt hlk (by first | rfl | (simp only [tlF, c_1, c_3, ↓reduceIte, bI]; done) | (simp only [tlF, c_1, c_3, ↓reduceIte, bI]; rfl) | (simp [tlF, c_1, c_3, bI]; done)) dX0_tollWith_41

theorem hd_X0_tollOfStep : yX0_tollOfStep.cls ≠ "java/lang/invoke/MethodHandle" ∧ yX0_tollOfStep.cls ≠ "java/lang/invoke/VarHandle" ∧ (parseMethodDescriptor yX0_tollOfStep.desc).map (fun d => d.parameters.length) = some 2 := by decide +kernel
set_option maxRecDepth 100000 in
set_option maxHeartbeats 4000000 in
theorem m_X0_tollOfStep (l : Launch) (D : va_G) (kA : Nat → Nat) (h0 : Nat) (hw : Nat) (G : Nat → Int32) (h9 : Nat) (R : Nat → Int32) (p0 : Int32) : Met l yX0_tollOfStep (Cond.code yX0_tollOfStep cX0_tollOfStep 3 (some .int) :: AW) ({ frames := 1, cells := 0, slots := 0, locals := 24 } : Room) (Pz [.ref h0, .int p0, .ref h9] D (TY kA) [(h0, gC hw G), (hw, wC kA G), (h9, rC R)]) (pQ (some (.int (tollG G R p0)))) 0 0 (fun _ => False) := by
  refine MetZ (by decide +kernel) (Nat.le_of_ble_eq_true rfl) ?_
  intro p e s m below meth c ls hx hb hrt hts hown hml hlk hnm hP hK hD hS hl
  have hl : lv_has ls 3 [(0, .ref h0), (1, .int p0), (2, .ref h9)] := hl
  refine lv_aload_n hx hb dX0_tollOfStep_0 rfl (lv_at hl 0 rfl) ?_
  refine lv_aload_n hx hb dX0_tollOfStep_1 rfl (lv_at hl 0 rfl) ?_
  refine lv_aload_n hx hb dX0_tollOfStep_2 rfl (lv_at hl 0 rfl) ?_
  refine va_get (ci := 0) (v := .int (G 0)) (C := RX0) (T := TX0) (N := 12) hx hb hts inX0 hown hK hP 0 rfl rfl 1 (by decide) (hts _ q_71) (fun _ h9 => h9) rfl dX0_tollOfStep_3 ?_
  refine lv_iload_n hx hb dX0_tollOfStep_6 rfl (lv_at hl 1 rfl) ?_
  refine cs_p (runS (As := [.int (G 0), .int p0]) (rest := [.ref h0, .ref h0]) ⟨hx, hb, hml, hown, hts⟩ (m_X0_toothBy l D kA (G 0) p0 ) q_311 q_312 q_4 q_313 hd_X0_toothBy ⟨rfl, rfl⟩ ⟨Nat.le_of_ble_eq_true rfl, Nat.le_of_ble_eq_true rfl⟩ hK (ws := []) (hP.sub [] rfl) (hD.sub [] (by decide) rfl) rfl hl.1 rfl (Nat.le_of_ble_eq_true rfl) dX0_tollOfStep_7 ⟨Nat.zero_le _, Nat.zero_le _⟩) ?_
  refine cs_p (runV (As := [.int (tW (G 0) p0)]) (rest := [.ref h0]) ⟨hx, hb, hml, hown, hts⟩ (m_X0_wearOf l D kA h0 hw (G 0) (G 1) (G 2) (G 3) (G 4) (G 5) (G 6) (G 7) (G 8) (G 9) (G 10) (fun t => G (t + 11)) (tW (G 0) p0) ) q_314 q_278 q_279 q_4 q_280 hd_X0_wearOf ⟨rfl, rfl⟩ ⟨Nat.le_of_ble_eq_true rfl, Nat.le_of_ble_eq_true rfl⟩ hK (ws := [(h0, .inr (0, [.ref hw, .int (G 0), .int (G 1), .int (G 2), .int (G 3), .int (G 4), .int (G 5), .int (G 6), .int (G 7), .int (G 8), .int (G 9), .int (G 10)])), (hw, .inl (kA 0, 24, .inl (fun t => G (t + 11))))]) (hP.sub [0, 1] rfl) (hD.sub [0, 1] (by decide) rfl) 0 (ci := 0) (C := RX0) (T := TX0) (N := 12) rfl rfl rfl hl.1 rfl (Nat.le_of_ble_eq_true rfl) dX0_tollOfStep_10 ⟨Nat.zero_le _, Nat.zero_le _⟩) ?_
  refine lv_aload_n hx hb dX0_tollOfStep_13 rfl (lv_at hl 0 rfl) ?_
  refine va_get (ci := 0) (v := .int (G 5)) (C := RX0) (T := TX0) (N := 12) hx hb hts inX0 hown hK hP 0 rfl rfl 6 (by decide) (hts _ q_81) (fun _ h9 => h9) rfl dX0_tollOfStep_14 ?_
  refine lv_aload_n hx hb dX0_tollOfStep_17 rfl (lv_at hl 2 rfl) ?_
  refine cs_p (runV (As := [.int (wrF (fun t => G (t + 11)) (tW (G 0) p0)), .int (G 5), .ref h9]) (rest := []) ⟨hx, hb, hml, hown, hts⟩ (m_X0_tollWith l D kA h0 hw (G 0) (G 1) (G 2) (G 3) (G 4) (G 5) (G 6) (G 7) (G 8) (G 9) (G 10) h9 (R 0) (R 1) (R 2) (R 3) (R 4) (R 5) (wrF (fun t => G (t + 11)) (tW (G 0) p0)) (G 5) ) q_315 q_316 q_317 q_4 q_318 hd_X0_tollWith ⟨rfl, rfl⟩ ⟨Nat.le_of_ble_eq_true rfl, Nat.le_of_ble_eq_true rfl⟩ hK (ws := [(h0, .inr (0, [.ref hw, .int (G 0), .int (G 1), .int (G 2), .int (G 3), .int (G 4), .int (G 5), .int (G 6), .int (G 7), .int (G 8), .int (G 9), .int (G 10)])), (h9, .inr (3, [.int (R 0), .int (R 1), .int (R 2), .int (R 3), .int (R 4), .int (R 5)]))]) (hP.sub [0, 2] rfl) (hD.sub [0, 2] (by decide) rfl) 0 (ci := 0) (C := RX0) (T := TX0) (N := 12) rfl rfl rfl hl.1 rfl (Nat.le_of_ble_eq_true rfl) dX0_tollOfStep_18 ⟨Nat.zero_le _, Nat.zero_le _⟩) ?_
  exact end_pi hx hb hrt hlk (by first | rfl | (simp only [tollG, gwr, ↓reduceIte, bI]; done) | (simp only [tollG, gwr, ↓reduceIte, bI]; rfl) | (simp [tollG, gwr, bI]; done)) dX0_tollOfStep_21

theorem hd_X0_isTurn : yX0_isTurn.cls ≠ "java/lang/invoke/MethodHandle" ∧ yX0_isTurn.cls ≠ "java/lang/invoke/VarHandle" ∧ (parseMethodDescriptor yX0_isTurn.desc).map (fun d => d.parameters.length) = some 1 := by decide +kernel
set_option maxRecDepth 100000 in
set_option maxHeartbeats 4000000 in
theorem m_X0_isTurn (l : Launch) (D : va_G) (kA : Nat → Nat) (h0 : Nat) (hw : Nat) (f0 : Int32) (f1 : Int32) (f2 : Int32) (f3 : Int32) (f4 : Int32) (f5 : Int32) (f6 : Int32) (f7 : Int32) (f8 : Int32) (f9 : Int32) (f10 : Int32) (p0 : Int32) : Met l yX0_isTurn (Cond.code yX0_isTurn cX0_isTurn 2 (some .boolean) :: AW) ({ frames := 0, cells := 0, slots := 0, locals := 0 } : Room) (Pz [.ref h0, .int p0] D (TY kA) [(h0, .inr (0, [.ref hw, .int f0, .int f1, .int f2, .int f3, .int f4, .int f5, .int f6, .int f7, .int f8, .int f9, .int f10]))]) (pQ (some (.int (bI (decide (f3 = -p0)))))) 0 0 (fun _ => False) := by
  refine MetZ (by decide +kernel) (Nat.le_of_ble_eq_true rfl) ?_
  intro p e s m below meth c ls hx hb hrt hts hown hml hlk hnm hP hK hD hS hl
  have hl : lv_has ls 2 [(0, .ref h0), (1, .int p0)] := hl
  refine lv_aload_n hx hb dX0_isTurn_0 rfl (lv_at hl 0 rfl) ?_
  refine va_get (ci := 0) (v := .int f3) (C := RX0) (T := TX0) (N := 12) hx hb hts inX0 hown hK hP 0 rfl rfl 4 (by decide) (hts _ q_79) (fun _ h9 => h9) rfl dX0_isTurn_1 ?_
  refine lv_iload_n hx hb dX0_isTurn_4 rfl (lv_at hl 1 rfl) ?_
  refine lv_ineg hx hb dX0_isTurn_5 ?_
  refine lv_icmp_ne (tgt := 13) hx hb dX0_isTurn_6 (by decide) (fun c_1 => ?_) (fun c_1 => ?_)
  · skip
    refine lv_iconst (v := 0) hx hb dX0_isTurn_13 (by decide) ?_
    exact end_pz hx hb hrt hlk (by decide) (by simp only [c_1, decide_true, decide_false, bI]) dX0_isTurn_14
  · skip
    refine lv_iconst (v := 1) hx hb dX0_isTurn_9 (by decide) ?_
    refine lv_goto (tgt := 14) hx hb dX0_isTurn_10 (by decide) ?_
    exact end_pz hx hb hrt hlk (by decide) (by simp only [c_1, decide_true, decide_false, bI]) dX0_isTurn_14

theorem hd_X0_makeStep : yX0_makeStep.cls ≠ "java/lang/invoke/MethodHandle" ∧ yX0_makeStep.cls ≠ "java/lang/invoke/VarHandle" ∧ (parseMethodDescriptor yX0_makeStep.desc).map (fun d => d.parameters.length) = some 3 := by decide +kernel
set_option maxRecDepth 100000 in
set_option maxHeartbeats 4000000 in
theorem m_X0_makeStep (l : Launch) (D : va_G) (kA : Nat → Nat) (h0 : Nat) (hw : Nat) (G : Nat → Int32) (h9 : Nat) (R : Nat → Int32) (p0 : Int32) (p1 : Int32) : Met l yX0_makeStep (Cond.code yX0_makeStep cX0_makeStep 8 (some .int) :: AW) ({ frames := 1, cells := 0, slots := 0, locals := 24 } : Room) (Pz [.ref h0, .int p0, .int p1, .ref h9] D (TY kA) [(h0, gC hw G), (hw, wC kA G), (h9, rC R)]) (fQ (some (.int (msR G R p0 p1))) D [(h0, gC hw G), (hw, wC kA G), (h9, rC R)] [(h0, gC hw (msG G R p0 p1)), (hw, wC kA (msG G R p0 p1)), (h9, rC R)]) 0 0 (Aw [(h0, gC hw G), (hw, wC kA G), (h9, rC R)]) := by
  refine MetZ (by decide +kernel) (Nat.le_of_ble_eq_true rfl) ?_
  intro p e s m below meth c ls hx hb hrt hts hown hml hlk hnm hP hK hD hS hl
  have hl : lv_has ls 8 [(0, .ref h0), (1, .int p0), (2, .int p1), (3, .ref h9)] := hl
  refine lv_aload_n hx hb dX0_makeStep_0 rfl (lv_at hl 0 rfl) ?_
  refine va_get (ci := 0) (v := .int (G 0)) (C := RX0) (T := TX0) (N := 12) hx hb hts inX0 hown hK hP 0 rfl rfl 1 (by decide) (hts _ q_71) (fun _ h9 => h9) rfl dX0_makeStep_1 ?_
  refine lv_iload_n hx hb dX0_makeStep_4 rfl (lv_at hl 1 rfl) ?_
  refine cs_p (runS (As := [.int (G 0), .int p0]) (rest := []) ⟨hx, hb, hml, hown, hts⟩ (m_X0_toothBy l D kA (G 0) p0 ) q_311 q_312 q_4 q_313 hd_X0_toothBy ⟨rfl, rfl⟩ ⟨Nat.le_of_ble_eq_true rfl, Nat.le_of_ble_eq_true rfl⟩ hK (ws := []) (hP.sub [] rfl) (hD.sub [] (by decide) rfl) rfl hl.1 rfl (Nat.le_of_ble_eq_true rfl) dX0_makeStep_5 ⟨Nat.zero_le _, Nat.zero_le _⟩) ?_
  refine lv_istore (lv' := [(4, .int (tW (G 0) p0)), (0, .ref h0), (1, .int p0), (2, .int p1), (3, .ref h9)]) hx hb dX0_makeStep_8 hl (by decide) rfl (fun ls hl => ?_)
  refine lv_aload_n hx hb dX0_makeStep_10 rfl (lv_at hl 1 rfl) ?_
  refine lv_iload hx hb dX0_makeStep_11 (lv_at hl 0 rfl) ?_
  refine cs_p (runV (As := [.int (tW (G 0) p0)]) (rest := []) ⟨hx, hb, hml, hown, hts⟩ (m_X0_wearOf l D kA h0 hw (G 0) (G 1) (G 2) (G 3) (G 4) (G 5) (G 6) (G 7) (G 8) (G 9) (G 10) (fun t => G (t + 11)) (tW (G 0) p0) ) q_314 q_278 q_279 q_4 q_280 hd_X0_wearOf ⟨rfl, rfl⟩ ⟨Nat.le_of_ble_eq_true rfl, Nat.le_of_ble_eq_true rfl⟩ hK (ws := [(h0, .inr (0, [.ref hw, .int (G 0), .int (G 1), .int (G 2), .int (G 3), .int (G 4), .int (G 5), .int (G 6), .int (G 7), .int (G 8), .int (G 9), .int (G 10)])), (hw, .inl (kA 0, 24, .inl (fun t => G (t + 11))))]) (hP.sub [0, 1] rfl) (hD.sub [0, 1] (by decide) rfl) 0 (ci := 0) (C := RX0) (T := TX0) (N := 12) rfl rfl rfl hl.1 rfl (Nat.le_of_ble_eq_true rfl) dX0_makeStep_13 ⟨Nat.zero_le _, Nat.zero_le _⟩) ?_
  refine lv_istore (lv' := [(5, .int (wrF (fun t => G (t + 11)) (tW (G 0) p0))), (4, .int (tW (G 0) p0)), (0, .ref h0), (1, .int p0), (2, .int p1), (3, .ref h9)]) hx hb dX0_makeStep_16 hl (by decide) rfl (fun ls hl => ?_)
  refine lv_aload_n hx hb dX0_makeStep_18 rfl (lv_at hl 2 rfl) ?_
  refine lv_iload hx hb dX0_makeStep_19 (lv_at hl 0 rfl) ?_
  refine lv_aload_n hx hb dX0_makeStep_21 rfl (lv_at hl 2 rfl) ?_
  refine va_get (ci := 0) (v := .int (G 5)) (C := RX0) (T := TX0) (N := 12) hx hb hts inX0 hown hK hP 0 rfl rfl 6 (by decide) (hts _ q_81) (fun _ h9 => h9) rfl dX0_makeStep_22 ?_
  refine lv_aload_n hx hb dX0_makeStep_25 rfl (lv_at hl 5 rfl) ?_
  refine cs_p (runV (As := [.int (wrF (fun t => G (t + 11)) (tW (G 0) p0)), .int (G 5), .ref h9]) (rest := []) ⟨hx, hb, hml, hown, hts⟩ (m_X0_tollWith l D kA h0 hw (G 0) (G 1) (G 2) (G 3) (G 4) (G 5) (G 6) (G 7) (G 8) (G 9) (G 10) h9 (R 0) (R 1) (R 2) (R 3) (R 4) (R 5) (wrF (fun t => G (t + 11)) (tW (G 0) p0)) (G 5) ) q_315 q_316 q_317 q_4 q_318 hd_X0_tollWith ⟨rfl, rfl⟩ ⟨Nat.le_of_ble_eq_true rfl, Nat.le_of_ble_eq_true rfl⟩ hK (ws := [(h0, .inr (0, [.ref hw, .int (G 0), .int (G 1), .int (G 2), .int (G 3), .int (G 4), .int (G 5), .int (G 6), .int (G 7), .int (G 8), .int (G 9), .int (G 10)])), (h9, .inr (3, [.int (R 0), .int (R 1), .int (R 2), .int (R 3), .int (R 4), .int (R 5)]))]) (hP.sub [0, 2] rfl) (hD.sub [0, 2] (by decide) rfl) 0 (ci := 0) (C := RX0) (T := TX0) (N := 12) rfl rfl rfl hl.1 rfl (Nat.le_of_ble_eq_true rfl) dX0_makeStep_26 ⟨Nat.zero_le _, Nat.zero_le _⟩) ?_
  refine lv_istore (lv' := [(6, .int (tlF (G 2) (wrF (fun t => G (t + 11)) (tW (G 0) p0)) (G 5) (R 1))), (5, .int (wrF (fun t => G (t + 11)) (tW (G 0) p0))), (4, .int (tW (G 0) p0)), (0, .ref h0), (1, .int p0), (2, .int p1), (3, .ref h9)]) hx hb dX0_makeStep_29 hl (by decide) rfl (fun ls hl => ?_)
  refine lv_iload hx hb dX0_makeStep_31 (lv_at hl 0 rfl) ?_
  refine lv_iload_n hx hb dX0_makeStep_33 rfl (lv_at hl 5 rfl) ?_
  refine lv_icmp_le (tgt := 39) hx hb dX0_makeStep_34 (by decide) (fun c_1 => ?_) (fun c_1 => ?_)
  · skip
    replace c_1 := ge_n c_1
    refine lv_aload_n hx hb dX0_makeStep_39 rfl (lv_at hl 3 rfl) ?_
    refine lv_iload_n hx hb dX0_makeStep_40 rfl (lv_at hl 4 rfl) ?_
    refine cs_p (runV (As := [.int p0]) (rest := []) ⟨hx, hb, hml, hown, hts⟩ (m_X0_isTurn l D kA h0 hw (G 0) (G 1) (G 2) (G 3) (G 4) (G 5) (G 6) (G 7) (G 8) (G 9) (G 10) p0 ) q_354 q_324 q_325 q_4 q_326 hd_X0_isTurn ⟨rfl, rfl⟩ ⟨Nat.le_of_ble_eq_true rfl, Nat.le_of_ble_eq_true rfl⟩ hK (ws := [(h0, .inr (0, [.ref hw, .int (G 0), .int (G 1), .int (G 2), .int (G 3), .int (G 4), .int (G 5), .int (G 6), .int (G 7), .int (G 8), .int (G 9), .int (G 10)]))]) (hP.sub [0] rfl) (hD.sub [0] (by decide) rfl) 0 (ci := 0) (C := RX0) (T := TX0) (N := 12) rfl rfl rfl hl.1 rfl (Nat.le_of_ble_eq_true rfl) dX0_makeStep_41 ⟨Nat.zero_le _, Nat.zero_le _⟩) ?_
    refine lv_istore (lv' := [(7, .int (bI (decide ((G 3) = -p0)))), (6, .int (tlF (G 2) (wrF (fun t => G (t + 11)) (tW (G 0) p0)) (G 5) (R 1))), (5, .int (wrF (fun t => G (t + 11)) (tW (G 0) p0))), (4, .int (tW (G 0) p0)), (0, .ref h0), (1, .int p0), (2, .int p1), (3, .ref h9)]) hx hb dX0_makeStep_44 hl (by decide) rfl (fun ls hl => ?_)
    refine lv_iload hx hb dX0_makeStep_46 (lv_at hl 0 rfl) ?_
    refine lv_if_eq (tgt := 76) hx hb dX0_makeStep_48 (by decide) (fun c_2 => ?_) (fun c_2 => ?_)
    · skip
      replace c_2 := bI_0.mp c_2
      refine lv_aload_n hx hb dX0_makeStep_76 rfl (lv_at hl 4 rfl) ?_
      refine lv_aload_n hx hb dX0_makeStep_77 rfl (lv_at hl 4 rfl) ?_
      refine va_get (ci := 0) (v := .int (G 1)) (C := RX0) (T := TX0) (N := 12) hx hb hts inX0 hown hK hP 0 rfl rfl 2 (by decide) (hts _ q_74) (fun _ h9 => h9) rfl dX0_makeStep_78 ?_
      refine lv_iload_n hx hb dX0_makeStep_81 rfl (lv_at hl 5 rfl) ?_
      refine cs_p (runS (As := [.int (G 1), .int p0]) (rest := [.ref h0]) ⟨hx, hb, hml, hown, hts⟩ (m_X0_nextPlace l D kA (G 1) p0 ) q_332 q_333 q_4 q_334 hd_X0_nextPlace ⟨rfl, rfl⟩ ⟨Nat.le_of_ble_eq_true rfl, Nat.le_of_ble_eq_true rfl⟩ hK (ws := []) (hP.sub [] rfl) (hD.sub [] (by decide) rfl) rfl hl.1 rfl (Nat.le_of_ble_eq_true rfl) dX0_makeStep_82 ⟨Nat.zero_le _, Nat.zero_le _⟩) ?_
      refine va_put (ci := 0) (v := .int (nW (G 1) p0)) (ty := tyX0 2) (C := RX0) (T := TX0) (N := 12) hx hb hts inX0 tyX0 tyX0_ok nmX0 hown hK hP hD hS 0 rfl rfl 2 (by decide) (hts _ q_74) (fun _ h9 => h9) rfl (tyX0_ok 2 (by decide)) rfl rfl (Nat.le_of_ble_eq_true rfl) dX0_makeStep_85 (fun H locs hP hD hS => ?_)
      have hP : va_P D vwCl [(h0, .inr (0, [.ref hw, .int (G 0), .int (nW (G 1) p0), .int (G 2), .int (G 3), .int (G 4), .int (G 5), .int (G 6), .int (G 7), .int (G 8), .int (G 9), .int (G 10)])), (hw, wC kA G), (h9, rC R)] H := hP
      have hD : va_D (Aw [(h0, gC hw G), (hw, wC kA G), (h9, rC R)]) [(h0, .inr (0, [.ref hw, .int (G 0), .int (nW (G 1) p0), .int (G 2), .int (G 3), .int (G 4), .int (G 5), .int (G 6), .int (G 7), .int (G 8), .int (G 9), .int (G 10)])), (hw, wC kA G), (h9, rC R)] := hD
      refine lv_iload hx hb dX0_makeStep_88 (lv_at hl 0 rfl) ?_
      refine lv_if_eq (tgt := 115) hx hb dX0_makeStep_90 (by decide) (fun c_3 => ?_) (fun c_3 => ?_)
      · skip
        replace c_3 := bI_0.mp c_3
        refine lv_aload_n hx hb dX0_makeStep_115 rfl (lv_at hl 4 rfl) ?_
        refine lv_aload_n hx hb dX0_makeStep_116 rfl (lv_at hl 4 rfl) ?_
        refine va_get (ci := 0) (v := .int (G 0)) (C := RX0) (T := TX0) (N := 12) hx hb hts inX0 hown hK hP 0 rfl rfl 1 (by decide) (hts _ q_71) (fun _ h9 => h9) rfl dX0_makeStep_117 ?_
        refine lv_iload_n hx hb dX0_makeStep_120 rfl (lv_at hl 5 rfl) ?_
        refine cs_p (runS (As := [.int (G 0), .int p0]) (rest := [.ref h0]) ⟨hx, hb, hml, hown, hts⟩ (m_X0_nextPlace l D kA (G 0) p0 ) q_332 q_333 q_4 q_334 hd_X0_nextPlace ⟨rfl, rfl⟩ ⟨Nat.le_of_ble_eq_true rfl, Nat.le_of_ble_eq_true rfl⟩ hK (ws := []) (hP.sub [] rfl) (hD.sub [] (by decide) rfl) rfl hl.1 rfl (Nat.le_of_ble_eq_true rfl) dX0_makeStep_121 ⟨Nat.zero_le _, Nat.zero_le _⟩) ?_
        refine va_put (ci := 0) (v := .int (nW (G 0) p0)) (ty := tyX0 1) (C := RX0) (T := TX0) (N := 12) hx hb hts inX0 tyX0 tyX0_ok nmX0 hown hK hP hD hS 0 rfl rfl 1 (by decide) (hts _ q_71) (fun _ h9 => h9) rfl (tyX0_ok 1 (by decide)) rfl rfl (Nat.le_of_ble_eq_true rfl) dX0_makeStep_124 (fun H locs hP hD hS => ?_)
        have hP : va_P D vwCl [(h0, .inr (0, [.ref hw, .int (nW (G 0) p0), .int (nW (G 1) p0), .int (G 2), .int (G 3), .int (G 4), .int (G 5), .int (G 6), .int (G 7), .int (G 8), .int (G 9), .int (G 10)])), (hw, wC kA G), (h9, rC R)] H := hP
        have hD : va_D (Aw [(h0, gC hw G), (hw, wC kA G), (h9, rC R)]) [(h0, .inr (0, [.ref hw, .int (nW (G 0) p0), .int (nW (G 1) p0), .int (G 2), .int (G 3), .int (G 4), .int (G 5), .int (G 6), .int (G 7), .int (G 8), .int (G 9), .int (G 10)])), (hw, wC kA G), (h9, rC R)] := hD
        refine lv_aload_n hx hb dX0_makeStep_127 rfl (lv_at hl 4 rfl) ?_
        refine lv_iload hx hb dX0_makeStep_128 (lv_at hl 3 rfl) ?_
        refine lv_iload hx hb dX0_makeStep_130 (lv_at hl 2 rfl) ?_
        refine lv_aload_n hx hb dX0_makeStep_132 rfl (lv_at hl 7 rfl) ?_
        refine va_get (ci := 3) (v := .int (R 0)) (C := RX3) (T := TX3) (N := 6) hx hb hts inX3 hown hK hP 2 rfl rfl 0 (by decide) (hts _ q_38) (fun _ h9 => h9) rfl dX0_makeStep_133 ?_
        refine lv_iadd hx hb dX0_makeStep_136 ?_
        refine lv_bipush (v := 99) hx hb dX0_makeStep_137 (by decide) ?_
        refine va_mmin hx hb (hml.trans hl.1.symm) hown (hts _ q_261) (hts _ q_262) (hts _ q_13) (hts _ q_263) (Nat.le_of_ble_eq_true rfl) (Nat.le_of_ble_eq_true rfl) (Nat.zero_le _) (Nat.zero_le _) dX0_makeStep_139 ?_
        refine cs_fn (runV (As := [.int (tW (G 0) p0), .int (if 99 < (wrF (fun t => G (t + 11)) (tW (G 0) p0)) + (R 0) then 99 else (wrF (fun t => G (t + 11)) (tW (G 0) p0)) + (R 0))]) (rest := []) ⟨hx, hb, hml, hown, hts⟩ (m_X0_setWear l D kA h0 hw (nW (G 0) p0) (nW (G 1) p0) (G 2) (G 3) (G 4) (G 5) (G 6) (G 7) (G 8) (G 9) (G 10) (fun t => G (t + 11)) (tW (G 0) p0) (if 99 < (wrF (fun t => G (t + 11)) (tW (G 0) p0)) + (R 0) then 99 else (wrF (fun t => G (t + 11)) (tW (G 0) p0)) + (R 0)) ) q_355 q_356 q_357 q_4 q_358 hd_X0_setWear ⟨rfl, rfl⟩ ⟨Nat.le_of_ble_eq_true rfl, Nat.le_of_ble_eq_true rfl⟩ hK (ws := [(h0, .inr (0, [.ref hw, .int (nW (G 0) p0), .int (nW (G 1) p0), .int (G 2), .int (G 3), .int (G 4), .int (G 5), .int (G 6), .int (G 7), .int (G 8), .int (G 9), .int (G 10)])), (hw, .inl (kA 0, 24, .inl (fun t => G (t + 11))))]) (hP.sub [0, 1] rfl) (hD.sub [0, 1] (by decide) rfl) 0 (ci := 0) (C := RX0) (T := TX0) (N := 12) rfl rfl rfl hl.1 rfl (Nat.le_of_ble_eq_true rfl) dX0_makeStep_142 ⟨Nat.zero_le _, Nat.zero_le _⟩) hS (aw_sub hD (isC := [0, 1]) rfl) (fun H locs hP1 hk1 hS => ?_)
        obtain ⟨hP, hD⟩ := jn (wr := [(h9, rC R)]) (w1 := [(h0, .inr (0, [.ref hw, .int (nW (G 0) p0), .int (nW (G 1) p0), .int (G 2), .int (G 3), .int (G 4), .int (G 5), .int (G 6), .int (G 7), .int (G 8), .int (G 9), .int (G 10)])), (hw, .inl (kA 0, 24, .inl (wsF (fun t => G (t + 11)) (tW (G 0) p0) (if 99 < (wrF (fun t => G (t + 11)) (tW (G 0) p0)) + (R 0) then 99 else (wrF (fun t => G (t + 11)) (tW (G 0) p0)) + (R 0)))))]) hP hD [0, 1] [2] rfl rfl (by decide) hk1 hP1 rfl
        have hP : va_P D vwCl [(h9, rC R), (h0, .inr (0, [.ref hw, .int (nW (G 0) p0), .int (nW (G 1) p0), .int (G 2), .int (G 3), .int (G 4), .int (G 5), .int (G 6), .int (G 7), .int (G 8), .int (G 9), .int (G 10)])), (hw, .inl (kA 0, 24, .inl (wsF (fun t => G (t + 11)) (tW (G 0) p0) (if 99 < (wrF (fun t => G (t + 11)) (tW (G 0) p0)) + (R 0) then 99 else (wrF (fun t => G (t + 11)) (tW (G 0) p0)) + (R 0)))))] H := hP
        have hD : va_D (Aw [(h0, gC hw G), (hw, wC kA G), (h9, rC R)]) [(h9, rC R), (h0, .inr (0, [.ref hw, .int (nW (G 0) p0), .int (nW (G 1) p0), .int (G 2), .int (G 3), .int (G 4), .int (G 5), .int (G 6), .int (G 7), .int (G 8), .int (G 9), .int (G 10)])), (hw, .inl (kA 0, 24, .inl (wsF (fun t => G (t + 11)) (tW (G 0) p0) (if 99 < (wrF (fun t => G (t + 11)) (tW (G 0) p0)) + (R 0) then 99 else (wrF (fun t => G (t + 11)) (tW (G 0) p0)) + (R 0)))))] := hD
        refine lv_aload_n hx hb dX0_makeStep_145 rfl (lv_at hl 4 rfl) ?_
        refine lv_iload_n hx hb dX0_makeStep_146 rfl (lv_at hl 5 rfl) ?_
        refine va_put (ci := 0) (v := .int p0) (ty := tyX0 4) (C := RX0) (T := TX0) (N := 12) hx hb hts inX0 tyX0 tyX0_ok nmX0 hown hK hP hD hS 1 rfl rfl 4 (by decide) (hts _ q_79) (fun _ h9 => h9) rfl (tyX0_ok 4 (by decide)) rfl rfl (Nat.le_of_ble_eq_true rfl) dX0_makeStep_147 (fun H locs hP hD hS => ?_)
        have hP : va_P D vwCl [(h9, rC R), (h0, .inr (0, [.ref hw, .int (nW (G 0) p0), .int (nW (G 1) p0), .int (G 2), .int p0, .int (G 4), .int (G 5), .int (G 6), .int (G 7), .int (G 8), .int (G 9), .int (G 10)])), (hw, .inl (kA 0, 24, .inl (wsF (fun t => G (t + 11)) (tW (G 0) p0) (if 99 < (wrF (fun t => G (t + 11)) (tW (G 0) p0)) + (R 0) then 99 else (wrF (fun t => G (t + 11)) (tW (G 0) p0)) + (R 0)))))] H := hP
        have hD : va_D (Aw [(h0, gC hw G), (hw, wC kA G), (h9, rC R)]) [(h9, rC R), (h0, .inr (0, [.ref hw, .int (nW (G 0) p0), .int (nW (G 1) p0), .int (G 2), .int p0, .int (G 4), .int (G 5), .int (G 6), .int (G 7), .int (G 8), .int (G 9), .int (G 10)])), (hw, .inl (kA 0, 24, .inl (wsF (fun t => G (t + 11)) (tW (G 0) p0) (if 99 < (wrF (fun t => G (t + 11)) (tW (G 0) p0)) + (R 0) then 99 else (wrF (fun t => G (t + 11)) (tW (G 0) p0)) + (R 0)))))] := hD
        refine lv_aload_n hx hb dX0_makeStep_150 rfl (lv_at hl 4 rfl) ?_
        refine lv_aload_n hx hb dX0_makeStep_151 rfl (lv_at hl 4 rfl) ?_
        refine va_get (ci := 0) (v := .int (G 5)) (C := RX0) (T := TX0) (N := 12) hx hb hts inX0 hown hK hP 1 rfl rfl 6 (by decide) (hts _ q_81) (fun _ h9 => h9) rfl dX0_makeStep_152 ?_
        refine lv_iconst (v := 1) hx hb dX0_makeStep_155 (by decide) ?_
        refine lv_isub hx hb dX0_makeStep_156 ?_
        refine lv_iconst (v := 0) hx hb dX0_makeStep_157 (by decide) ?_
        refine va_mmax hx hb (hml.trans hl.1.symm) hown (hts _ q_359) (hts _ q_360) (hts _ q_13) (hts _ q_361) (Nat.le_of_ble_eq_true rfl) (Nat.le_of_ble_eq_true rfl) (Nat.zero_le _) (Nat.zero_le _) dX0_makeStep_158 ?_
        refine va_put (ci := 0) (v := .int (if (G 5) - 1 < 0 then 0 else (G 5) - 1)) (ty := tyX0 6) (C := RX0) (T := TX0) (N := 12) hx hb hts inX0 tyX0 tyX0_ok nmX0 hown hK hP hD hS 1 rfl rfl 6 (by decide) (hts _ q_81) (fun _ h9 => h9) rfl (tyX0_ok 6 (by decide)) rfl rfl (Nat.le_of_ble_eq_true rfl) dX0_makeStep_161 (fun H locs hP hD hS => ?_)
        have hP : va_P D vwCl [(h9, rC R), (h0, .inr (0, [.ref hw, .int (nW (G 0) p0), .int (nW (G 1) p0), .int (G 2), .int p0, .int (G 4), .int (if (G 5) - 1 < 0 then 0 else (G 5) - 1), .int (G 6), .int (G 7), .int (G 8), .int (G 9), .int (G 10)])), (hw, .inl (kA 0, 24, .inl (wsF (fun t => G (t + 11)) (tW (G 0) p0) (if 99 < (wrF (fun t => G (t + 11)) (tW (G 0) p0)) + (R 0) then 99 else (wrF (fun t => G (t + 11)) (tW (G 0) p0)) + (R 0)))))] H := hP
        have hD : va_D (Aw [(h0, gC hw G), (hw, wC kA G), (h9, rC R)]) [(h9, rC R), (h0, .inr (0, [.ref hw, .int (nW (G 0) p0), .int (nW (G 1) p0), .int (G 2), .int p0, .int (G 4), .int (if (G 5) - 1 < 0 then 0 else (G 5) - 1), .int (G 6), .int (G 7), .int (G 8), .int (G 9), .int (G 10)])), (hw, .inl (kA 0, 24, .inl (wsF (fun t => G (t + 11)) (tW (G 0) p0) (if 99 < (wrF (fun t => G (t + 11)) (tW (G 0) p0)) + (R 0) then 99 else (wrF (fun t => G (t + 11)) (tW (G 0) p0)) + (R 0)))))] := hD
        refine lv_aload_n hx hb dX0_makeStep_164 rfl (lv_at hl 4 rfl) ?_
        refine lv_dup hx hb dX0_makeStep_165 rfl ?_
        refine va_get (ci := 0) (v := .int (G 6)) (C := RX0) (T := TX0) (N := 12) hx hb hts inX0 hown hK hP 1 rfl rfl 7 (by decide) (hts _ q_83) (fun _ h9 => h9) rfl dX0_makeStep_166 ?_
        refine lv_iconst (v := 1) hx hb dX0_makeStep_169 (by decide) ?_
        refine lv_iadd hx hb dX0_makeStep_170 ?_
        refine va_put (ci := 0) (v := .int ((G 6) + 1)) (ty := tyX0 7) (C := RX0) (T := TX0) (N := 12) hx hb hts inX0 tyX0 tyX0_ok nmX0 hown hK hP hD hS 1 rfl rfl 7 (by decide) (hts _ q_83) (fun _ h9 => h9) rfl (tyX0_ok 7 (by decide)) rfl rfl (Nat.le_of_ble_eq_true rfl) dX0_makeStep_171 (fun H locs hP hD hS => ?_)
        have hP : va_P D vwCl [(h9, rC R), (h0, .inr (0, [.ref hw, .int (nW (G 0) p0), .int (nW (G 1) p0), .int (G 2), .int p0, .int (G 4), .int (if (G 5) - 1 < 0 then 0 else (G 5) - 1), .int ((G 6) + 1), .int (G 7), .int (G 8), .int (G 9), .int (G 10)])), (hw, .inl (kA 0, 24, .inl (wsF (fun t => G (t + 11)) (tW (G 0) p0) (if 99 < (wrF (fun t => G (t + 11)) (tW (G 0) p0)) + (R 0) then 99 else (wrF (fun t => G (t + 11)) (tW (G 0) p0)) + (R 0)))))] H := hP
        have hD : va_D (Aw [(h0, gC hw G), (hw, wC kA G), (h9, rC R)]) [(h9, rC R), (h0, .inr (0, [.ref hw, .int (nW (G 0) p0), .int (nW (G 1) p0), .int (G 2), .int p0, .int (G 4), .int (if (G 5) - 1 < 0 then 0 else (G 5) - 1), .int ((G 6) + 1), .int (G 7), .int (G 8), .int (G 9), .int (G 10)])), (hw, .inl (kA 0, 24, .inl (wsF (fun t => G (t + 11)) (tW (G 0) p0) (if 99 < (wrF (fun t => G (t + 11)) (tW (G 0) p0)) + (R 0) then 99 else (wrF (fun t => G (t + 11)) (tW (G 0) p0)) + (R 0)))))] := hD
        refine lv_aload_n hx hb dX0_makeStep_174 rfl (lv_at hl 4 rfl) ?_
        refine lv_dup hx hb dX0_makeStep_175 rfl ?_
        refine va_get (ci := 0) (v := .int (G 8)) (C := RX0) (T := TX0) (N := 12) hx hb hts inX0 hown hK hP 1 rfl rfl 9 (by decide) (hts _ q_86) (fun _ h9 => h9) rfl dX0_makeStep_176 ?_
        refine lv_iload hx hb dX0_makeStep_179 (lv_at hl 1 rfl) ?_
        refine lv_iadd hx hb dX0_makeStep_181 ?_
        refine va_put (ci := 0) (v := .int ((G 8) + (tlF (G 2) (wrF (fun t => G (t + 11)) (tW (G 0) p0)) (G 5) (R 1)))) (ty := tyX0 9) (C := RX0) (T := TX0) (N := 12) hx hb hts inX0 tyX0 tyX0_ok nmX0 hown hK hP hD hS 1 rfl rfl 9 (by decide) (hts _ q_86) (fun _ h9 => h9) rfl (tyX0_ok 9 (by decide)) rfl rfl (Nat.le_of_ble_eq_true rfl) dX0_makeStep_182 (fun H locs hP hD hS => ?_)
        have hP : va_P D vwCl [(h9, rC R), (h0, .inr (0, [.ref hw, .int (nW (G 0) p0), .int (nW (G 1) p0), .int (G 2), .int p0, .int (G 4), .int (if (G 5) - 1 < 0 then 0 else (G 5) - 1), .int ((G 6) + 1), .int (G 7), .int ((G 8) + (tlF (G 2) (wrF (fun t => G (t + 11)) (tW (G 0) p0)) (G 5) (R 1))), .int (G 9), .int (G 10)])), (hw, .inl (kA 0, 24, .inl (wsF (fun t => G (t + 11)) (tW (G 0) p0) (if 99 < (wrF (fun t => G (t + 11)) (tW (G 0) p0)) + (R 0) then 99 else (wrF (fun t => G (t + 11)) (tW (G 0) p0)) + (R 0)))))] H := hP
        have hD : va_D (Aw [(h0, gC hw G), (hw, wC kA G), (h9, rC R)]) [(h9, rC R), (h0, .inr (0, [.ref hw, .int (nW (G 0) p0), .int (nW (G 1) p0), .int (G 2), .int p0, .int (G 4), .int (if (G 5) - 1 < 0 then 0 else (G 5) - 1), .int ((G 6) + 1), .int (G 7), .int ((G 8) + (tlF (G 2) (wrF (fun t => G (t + 11)) (tW (G 0) p0)) (G 5) (R 1))), .int (G 9), .int (G 10)])), (hw, .inl (kA 0, 24, .inl (wsF (fun t => G (t + 11)) (tW (G 0) p0) (if 99 < (wrF (fun t => G (t + 11)) (tW (G 0) p0)) + (R 0) then 99 else (wrF (fun t => G (t + 11)) (tW (G 0) p0)) + (R 0)))))] := hD
        refine lv_iload hx hb dX0_makeStep_185 (lv_at hl 1 rfl) ?_
        have hP : va_P D vwCl [(h0, .inr (0, [.ref hw, .int (nW (G 0) p0), .int (nW (G 1) p0), .int (G 2), .int p0, .int (G 4), .int (if (G 5) - 1 < 0 then 0 else (G 5) - 1), .int ((G 6) + 1), .int (G 7), .int ((G 8) + (tlF (G 2) (wrF (fun t => G (t + 11)) (tW (G 0) p0)) (G 5) (R 1))), .int (G 9), .int (G 10)])), (hw, .inl (kA 0, 24, .inl (wsF (fun t => G (t + 11)) (tW (G 0) p0) (if 99 < (wrF (fun t => G (t + 11)) (tW (G 0) p0)) + (R 0) then 99 else (wrF (fun t => G (t + 11)) (tW (G 0) p0)) + (R 0))))), (h9, rC R)] _ := hP.sub [1, 2, 0] rfl
        exact end_fi hx hb hrt hlk hP hS (by first | rfl | (simp only [msR, tollG, gwr, c_1, c_2, c_3, ↓reduceIte, bI]; done) | (simp only [msR, tollG, gwr, c_1, c_2, c_3, ↓reduceIte, bI]; rfl) | (simp [msR, tollG, gwr, c_1, c_2, c_3, bI]; done)) (by intro h; have e9 : msG G R p0 p1 = mkG (nW (G 0) p0) (nW (G 1) p0) (G 2) p0 (G 4) (if (G 5) - 1 < 0 then 0 else (G 5) - 1) ((G 6) + 1) (G 7) ((G 8) + (tlF (G 2) (wrF (fun t => G (t + 11)) (tW (G 0) p0)) (G 5) (R 1))) (G 9) (G 10) (wsF (fun t => G (t + 11)) (tW (G 0) p0) (if 99 < (wrF (fun t => G (t + 11)) (tW (G 0) p0)) + (R 0) then 99 else (wrF (fun t => G (t + 11)) (tW (G 0) p0)) + (R 0))) := (by first | (simp only [msG, stepG, tollG, gwr, turnG, c_1, c_2, c_3, ↓reduceIte, Bool.false_eq_true]; done) | (simp only [msG, stepG, tollG, gwr, turnG, c_1, c_2, c_3, ↓reduceIte, Bool.false_eq_true]; rfl) | (simp [msG, stepG, tollG, gwr, turnG, c_1, c_2, c_3]; done)); rw [e9]; exact h) dX0_makeStep_187
      · exact absurd (bI_n0 c_3) (by rw [c_2]; decide)
    · skip
      replace c_2 := bI_n0 c_2
      refine lv_aload_n hx hb dX0_makeStep_51 rfl (lv_at hl 4 rfl) ?_
      refine lv_dup hx hb dX0_makeStep_52 rfl ?_
      refine va_get (ci := 0) (v := .int (G 9)) (C := RX0) (T := TX0) (N := 12) hx hb hts inX0 hown hK hP 0 rfl rfl 10 (by decide) (hts _ q_87) (fun _ h9 => h9) rfl dX0_makeStep_53 ?_
      refine lv_iconst (v := 1) hx hb dX0_makeStep_56 (by decide) ?_
      refine lv_iadd hx hb dX0_makeStep_57 ?_
      refine va_put (ci := 0) (v := .int ((G 9) + 1)) (ty := tyX0 10) (C := RX0) (T := TX0) (N := 12) hx hb hts inX0 tyX0 tyX0_ok nmX0 hown hK hP hD hS 0 rfl rfl 10 (by decide) (hts _ q_87) (fun _ h9 => h9) rfl (tyX0_ok 10 (by decide)) rfl rfl (Nat.le_of_ble_eq_true rfl) dX0_makeStep_58 (fun H locs hP hD hS => ?_)
      have hP : va_P D vwCl [(h0, .inr (0, [.ref hw, .int (G 0), .int (G 1), .int (G 2), .int (G 3), .int (G 4), .int (G 5), .int (G 6), .int (G 7), .int (G 8), .int ((G 9) + 1), .int (G 10)])), (hw, wC kA G), (h9, rC R)] H := hP
      have hD : va_D (Aw [(h0, gC hw G), (hw, wC kA G), (h9, rC R)]) [(h0, .inr (0, [.ref hw, .int (G 0), .int (G 1), .int (G 2), .int (G 3), .int (G 4), .int (G 5), .int (G 6), .int (G 7), .int (G 8), .int ((G 9) + 1), .int (G 10)])), (hw, wC kA G), (h9, rC R)] := hD
      refine lv_aload_n hx hb dX0_makeStep_61 rfl (lv_at hl 4 rfl) ?_
      refine lv_aload_n hx hb dX0_makeStep_62 rfl (lv_at hl 4 rfl) ?_
      refine va_get (ci := 0) (v := .int (G 4)) (C := RX0) (T := TX0) (N := 12) hx hb hts inX0 hown hK hP 0 rfl rfl 5 (by decide) (hts _ q_80) (fun _ h9 => h9) rfl dX0_makeStep_63 ?_
      refine lv_iconst (v := 1) hx hb dX0_makeStep_66 (by decide) ?_
      refine lv_iadd hx hb dX0_makeStep_67 ?_
      refine lv_bipush (v := 12) hx hb dX0_makeStep_68 (by decide) ?_
      refine va_mmin hx hb (hml.trans hl.1.symm) hown (hts _ q_261) (hts _ q_262) (hts _ q_13) (hts _ q_263) (Nat.le_of_ble_eq_true rfl) (Nat.le_of_ble_eq_true rfl) (Nat.zero_le _) (Nat.zero_le _) dX0_makeStep_70 ?_
      refine va_put (ci := 0) (v := .int (if 12 < (G 4) + 1 then 12 else (G 4) + 1)) (ty := tyX0 5) (C := RX0) (T := TX0) (N := 12) hx hb hts inX0 tyX0 tyX0_ok nmX0 hown hK hP hD hS 0 rfl rfl 5 (by decide) (hts _ q_80) (fun _ h9 => h9) rfl (tyX0_ok 5 (by decide)) rfl rfl (Nat.le_of_ble_eq_true rfl) dX0_makeStep_73 (fun H locs hP hD hS => ?_)
      have hP : va_P D vwCl [(h0, .inr (0, [.ref hw, .int (G 0), .int (G 1), .int (G 2), .int (G 3), .int (if 12 < (G 4) + 1 then 12 else (G 4) + 1), .int (G 5), .int (G 6), .int (G 7), .int (G 8), .int ((G 9) + 1), .int (G 10)])), (hw, wC kA G), (h9, rC R)] H := hP
      have hD : va_D (Aw [(h0, gC hw G), (hw, wC kA G), (h9, rC R)]) [(h0, .inr (0, [.ref hw, .int (G 0), .int (G 1), .int (G 2), .int (G 3), .int (if 12 < (G 4) + 1 then 12 else (G 4) + 1), .int (G 5), .int (G 6), .int (G 7), .int (G 8), .int ((G 9) + 1), .int (G 10)])), (hw, wC kA G), (h9, rC R)] := hD
      refine lv_aload_n hx hb dX0_makeStep_76 rfl (lv_at hl 4 rfl) ?_
      refine lv_aload_n hx hb dX0_makeStep_77 rfl (lv_at hl 4 rfl) ?_
      refine va_get (ci := 0) (v := .int (G 1)) (C := RX0) (T := TX0) (N := 12) hx hb hts inX0 hown hK hP 0 rfl rfl 2 (by decide) (hts _ q_74) (fun _ h9 => h9) rfl dX0_makeStep_78 ?_
      refine lv_iload_n hx hb dX0_makeStep_81 rfl (lv_at hl 5 rfl) ?_
      refine cs_p (runS (As := [.int (G 1), .int p0]) (rest := [.ref h0]) ⟨hx, hb, hml, hown, hts⟩ (m_X0_nextPlace l D kA (G 1) p0 ) q_332 q_333 q_4 q_334 hd_X0_nextPlace ⟨rfl, rfl⟩ ⟨Nat.le_of_ble_eq_true rfl, Nat.le_of_ble_eq_true rfl⟩ hK (ws := []) (hP.sub [] rfl) (hD.sub [] (by decide) rfl) rfl hl.1 rfl (Nat.le_of_ble_eq_true rfl) dX0_makeStep_82 ⟨Nat.zero_le _, Nat.zero_le _⟩) ?_
      refine va_put (ci := 0) (v := .int (nW (G 1) p0)) (ty := tyX0 2) (C := RX0) (T := TX0) (N := 12) hx hb hts inX0 tyX0 tyX0_ok nmX0 hown hK hP hD hS 0 rfl rfl 2 (by decide) (hts _ q_74) (fun _ h9 => h9) rfl (tyX0_ok 2 (by decide)) rfl rfl (Nat.le_of_ble_eq_true rfl) dX0_makeStep_85 (fun H locs hP hD hS => ?_)
      have hP : va_P D vwCl [(h0, .inr (0, [.ref hw, .int (G 0), .int (nW (G 1) p0), .int (G 2), .int (G 3), .int (if 12 < (G 4) + 1 then 12 else (G 4) + 1), .int (G 5), .int (G 6), .int (G 7), .int (G 8), .int ((G 9) + 1), .int (G 10)])), (hw, wC kA G), (h9, rC R)] H := hP
      have hD : va_D (Aw [(h0, gC hw G), (hw, wC kA G), (h9, rC R)]) [(h0, .inr (0, [.ref hw, .int (G 0), .int (nW (G 1) p0), .int (G 2), .int (G 3), .int (if 12 < (G 4) + 1 then 12 else (G 4) + 1), .int (G 5), .int (G 6), .int (G 7), .int (G 8), .int ((G 9) + 1), .int (G 10)])), (hw, wC kA G), (h9, rC R)] := hD
      refine lv_iload hx hb dX0_makeStep_88 (lv_at hl 0 rfl) ?_
      refine lv_if_eq (tgt := 115) hx hb dX0_makeStep_90 (by decide) (fun c_4 => ?_) (fun c_4 => ?_)
      · exact absurd (bI_0.mp c_4) (by rw [c_2]; decide)
      · skip
        replace c_4 := bI_n0 c_4
        refine lv_iload hx hb dX0_makeStep_93 (lv_at hl 2 rfl) ?_
        refine lv_aload_n hx hb dX0_makeStep_95 rfl (lv_at hl 7 rfl) ?_
        refine va_get (ci := 3) (v := .int (R 2)) (C := RX3) (T := TX3) (N := 6) hx hb hts inX3 hown hK hP 2 rfl rfl 2 (by decide) (hts _ q_42) (fun _ h9 => h9) rfl dX0_makeStep_96 ?_
        refine lv_icmp_lt (tgt := 115) hx hb dX0_makeStep_99 (by decide) (fun c_5 => ?_) (fun c_5 => ?_)
        · skip
          refine lv_aload_n hx hb dX0_makeStep_115 rfl (lv_at hl 4 rfl) ?_
          refine lv_aload_n hx hb dX0_makeStep_116 rfl (lv_at hl 4 rfl) ?_
          refine va_get (ci := 0) (v := .int (G 0)) (C := RX0) (T := TX0) (N := 12) hx hb hts inX0 hown hK hP 0 rfl rfl 1 (by decide) (hts _ q_71) (fun _ h9 => h9) rfl dX0_makeStep_117 ?_
          refine lv_iload_n hx hb dX0_makeStep_120 rfl (lv_at hl 5 rfl) ?_
          refine cs_p (runS (As := [.int (G 0), .int p0]) (rest := [.ref h0]) ⟨hx, hb, hml, hown, hts⟩ (m_X0_nextPlace l D kA (G 0) p0 ) q_332 q_333 q_4 q_334 hd_X0_nextPlace ⟨rfl, rfl⟩ ⟨Nat.le_of_ble_eq_true rfl, Nat.le_of_ble_eq_true rfl⟩ hK (ws := []) (hP.sub [] rfl) (hD.sub [] (by decide) rfl) rfl hl.1 rfl (Nat.le_of_ble_eq_true rfl) dX0_makeStep_121 ⟨Nat.zero_le _, Nat.zero_le _⟩) ?_
          refine va_put (ci := 0) (v := .int (nW (G 0) p0)) (ty := tyX0 1) (C := RX0) (T := TX0) (N := 12) hx hb hts inX0 tyX0 tyX0_ok nmX0 hown hK hP hD hS 0 rfl rfl 1 (by decide) (hts _ q_71) (fun _ h9 => h9) rfl (tyX0_ok 1 (by decide)) rfl rfl (Nat.le_of_ble_eq_true rfl) dX0_makeStep_124 (fun H locs hP hD hS => ?_)
          have hP : va_P D vwCl [(h0, .inr (0, [.ref hw, .int (nW (G 0) p0), .int (nW (G 1) p0), .int (G 2), .int (G 3), .int (if 12 < (G 4) + 1 then 12 else (G 4) + 1), .int (G 5), .int (G 6), .int (G 7), .int (G 8), .int ((G 9) + 1), .int (G 10)])), (hw, wC kA G), (h9, rC R)] H := hP
          have hD : va_D (Aw [(h0, gC hw G), (hw, wC kA G), (h9, rC R)]) [(h0, .inr (0, [.ref hw, .int (nW (G 0) p0), .int (nW (G 1) p0), .int (G 2), .int (G 3), .int (if 12 < (G 4) + 1 then 12 else (G 4) + 1), .int (G 5), .int (G 6), .int (G 7), .int (G 8), .int ((G 9) + 1), .int (G 10)])), (hw, wC kA G), (h9, rC R)] := hD
          refine lv_aload_n hx hb dX0_makeStep_127 rfl (lv_at hl 4 rfl) ?_
          refine lv_iload hx hb dX0_makeStep_128 (lv_at hl 3 rfl) ?_
          refine lv_iload hx hb dX0_makeStep_130 (lv_at hl 2 rfl) ?_
          refine lv_aload_n hx hb dX0_makeStep_132 rfl (lv_at hl 7 rfl) ?_
          refine va_get (ci := 3) (v := .int (R 0)) (C := RX3) (T := TX3) (N := 6) hx hb hts inX3 hown hK hP 2 rfl rfl 0 (by decide) (hts _ q_38) (fun _ h9 => h9) rfl dX0_makeStep_133 ?_
          refine lv_iadd hx hb dX0_makeStep_136 ?_
          refine lv_bipush (v := 99) hx hb dX0_makeStep_137 (by decide) ?_
          refine va_mmin hx hb (hml.trans hl.1.symm) hown (hts _ q_261) (hts _ q_262) (hts _ q_13) (hts _ q_263) (Nat.le_of_ble_eq_true rfl) (Nat.le_of_ble_eq_true rfl) (Nat.zero_le _) (Nat.zero_le _) dX0_makeStep_139 ?_
          refine cs_fn (runV (As := [.int (tW (G 0) p0), .int (if 99 < (wrF (fun t => G (t + 11)) (tW (G 0) p0)) + (R 0) then 99 else (wrF (fun t => G (t + 11)) (tW (G 0) p0)) + (R 0))]) (rest := []) ⟨hx, hb, hml, hown, hts⟩ (m_X0_setWear l D kA h0 hw (nW (G 0) p0) (nW (G 1) p0) (G 2) (G 3) (if 12 < (G 4) + 1 then 12 else (G 4) + 1) (G 5) (G 6) (G 7) (G 8) ((G 9) + 1) (G 10) (fun t => G (t + 11)) (tW (G 0) p0) (if 99 < (wrF (fun t => G (t + 11)) (tW (G 0) p0)) + (R 0) then 99 else (wrF (fun t => G (t + 11)) (tW (G 0) p0)) + (R 0)) ) q_355 q_356 q_357 q_4 q_358 hd_X0_setWear ⟨rfl, rfl⟩ ⟨Nat.le_of_ble_eq_true rfl, Nat.le_of_ble_eq_true rfl⟩ hK (ws := [(h0, .inr (0, [.ref hw, .int (nW (G 0) p0), .int (nW (G 1) p0), .int (G 2), .int (G 3), .int (if 12 < (G 4) + 1 then 12 else (G 4) + 1), .int (G 5), .int (G 6), .int (G 7), .int (G 8), .int ((G 9) + 1), .int (G 10)])), (hw, .inl (kA 0, 24, .inl (fun t => G (t + 11))))]) (hP.sub [0, 1] rfl) (hD.sub [0, 1] (by decide) rfl) 0 (ci := 0) (C := RX0) (T := TX0) (N := 12) rfl rfl rfl hl.1 rfl (Nat.le_of_ble_eq_true rfl) dX0_makeStep_142 ⟨Nat.zero_le _, Nat.zero_le _⟩) hS (aw_sub hD (isC := [0, 1]) rfl) (fun H locs hP1 hk1 hS => ?_)
          obtain ⟨hP, hD⟩ := jn (wr := [(h9, rC R)]) (w1 := [(h0, .inr (0, [.ref hw, .int (nW (G 0) p0), .int (nW (G 1) p0), .int (G 2), .int (G 3), .int (if 12 < (G 4) + 1 then 12 else (G 4) + 1), .int (G 5), .int (G 6), .int (G 7), .int (G 8), .int ((G 9) + 1), .int (G 10)])), (hw, .inl (kA 0, 24, .inl (wsF (fun t => G (t + 11)) (tW (G 0) p0) (if 99 < (wrF (fun t => G (t + 11)) (tW (G 0) p0)) + (R 0) then 99 else (wrF (fun t => G (t + 11)) (tW (G 0) p0)) + (R 0)))))]) hP hD [0, 1] [2] rfl rfl (by decide) hk1 hP1 rfl
          have hP : va_P D vwCl [(h9, rC R), (h0, .inr (0, [.ref hw, .int (nW (G 0) p0), .int (nW (G 1) p0), .int (G 2), .int (G 3), .int (if 12 < (G 4) + 1 then 12 else (G 4) + 1), .int (G 5), .int (G 6), .int (G 7), .int (G 8), .int ((G 9) + 1), .int (G 10)])), (hw, .inl (kA 0, 24, .inl (wsF (fun t => G (t + 11)) (tW (G 0) p0) (if 99 < (wrF (fun t => G (t + 11)) (tW (G 0) p0)) + (R 0) then 99 else (wrF (fun t => G (t + 11)) (tW (G 0) p0)) + (R 0)))))] H := hP
          have hD : va_D (Aw [(h0, gC hw G), (hw, wC kA G), (h9, rC R)]) [(h9, rC R), (h0, .inr (0, [.ref hw, .int (nW (G 0) p0), .int (nW (G 1) p0), .int (G 2), .int (G 3), .int (if 12 < (G 4) + 1 then 12 else (G 4) + 1), .int (G 5), .int (G 6), .int (G 7), .int (G 8), .int ((G 9) + 1), .int (G 10)])), (hw, .inl (kA 0, 24, .inl (wsF (fun t => G (t + 11)) (tW (G 0) p0) (if 99 < (wrF (fun t => G (t + 11)) (tW (G 0) p0)) + (R 0) then 99 else (wrF (fun t => G (t + 11)) (tW (G 0) p0)) + (R 0)))))] := hD
          refine lv_aload_n hx hb dX0_makeStep_145 rfl (lv_at hl 4 rfl) ?_
          refine lv_iload_n hx hb dX0_makeStep_146 rfl (lv_at hl 5 rfl) ?_
          refine va_put (ci := 0) (v := .int p0) (ty := tyX0 4) (C := RX0) (T := TX0) (N := 12) hx hb hts inX0 tyX0 tyX0_ok nmX0 hown hK hP hD hS 1 rfl rfl 4 (by decide) (hts _ q_79) (fun _ h9 => h9) rfl (tyX0_ok 4 (by decide)) rfl rfl (Nat.le_of_ble_eq_true rfl) dX0_makeStep_147 (fun H locs hP hD hS => ?_)
          have hP : va_P D vwCl [(h9, rC R), (h0, .inr (0, [.ref hw, .int (nW (G 0) p0), .int (nW (G 1) p0), .int (G 2), .int p0, .int (if 12 < (G 4) + 1 then 12 else (G 4) + 1), .int (G 5), .int (G 6), .int (G 7), .int (G 8), .int ((G 9) + 1), .int (G 10)])), (hw, .inl (kA 0, 24, .inl (wsF (fun t => G (t + 11)) (tW (G 0) p0) (if 99 < (wrF (fun t => G (t + 11)) (tW (G 0) p0)) + (R 0) then 99 else (wrF (fun t => G (t + 11)) (tW (G 0) p0)) + (R 0)))))] H := hP
          have hD : va_D (Aw [(h0, gC hw G), (hw, wC kA G), (h9, rC R)]) [(h9, rC R), (h0, .inr (0, [.ref hw, .int (nW (G 0) p0), .int (nW (G 1) p0), .int (G 2), .int p0, .int (if 12 < (G 4) + 1 then 12 else (G 4) + 1), .int (G 5), .int (G 6), .int (G 7), .int (G 8), .int ((G 9) + 1), .int (G 10)])), (hw, .inl (kA 0, 24, .inl (wsF (fun t => G (t + 11)) (tW (G 0) p0) (if 99 < (wrF (fun t => G (t + 11)) (tW (G 0) p0)) + (R 0) then 99 else (wrF (fun t => G (t + 11)) (tW (G 0) p0)) + (R 0)))))] := hD
          refine lv_aload_n hx hb dX0_makeStep_150 rfl (lv_at hl 4 rfl) ?_
          refine lv_aload_n hx hb dX0_makeStep_151 rfl (lv_at hl 4 rfl) ?_
          refine va_get (ci := 0) (v := .int (G 5)) (C := RX0) (T := TX0) (N := 12) hx hb hts inX0 hown hK hP 1 rfl rfl 6 (by decide) (hts _ q_81) (fun _ h9 => h9) rfl dX0_makeStep_152 ?_
          refine lv_iconst (v := 1) hx hb dX0_makeStep_155 (by decide) ?_
          refine lv_isub hx hb dX0_makeStep_156 ?_
          refine lv_iconst (v := 0) hx hb dX0_makeStep_157 (by decide) ?_
          refine va_mmax hx hb (hml.trans hl.1.symm) hown (hts _ q_359) (hts _ q_360) (hts _ q_13) (hts _ q_361) (Nat.le_of_ble_eq_true rfl) (Nat.le_of_ble_eq_true rfl) (Nat.zero_le _) (Nat.zero_le _) dX0_makeStep_158 ?_
          refine va_put (ci := 0) (v := .int (if (G 5) - 1 < 0 then 0 else (G 5) - 1)) (ty := tyX0 6) (C := RX0) (T := TX0) (N := 12) hx hb hts inX0 tyX0 tyX0_ok nmX0 hown hK hP hD hS 1 rfl rfl 6 (by decide) (hts _ q_81) (fun _ h9 => h9) rfl (tyX0_ok 6 (by decide)) rfl rfl (Nat.le_of_ble_eq_true rfl) dX0_makeStep_161 (fun H locs hP hD hS => ?_)
          have hP : va_P D vwCl [(h9, rC R), (h0, .inr (0, [.ref hw, .int (nW (G 0) p0), .int (nW (G 1) p0), .int (G 2), .int p0, .int (if 12 < (G 4) + 1 then 12 else (G 4) + 1), .int (if (G 5) - 1 < 0 then 0 else (G 5) - 1), .int (G 6), .int (G 7), .int (G 8), .int ((G 9) + 1), .int (G 10)])), (hw, .inl (kA 0, 24, .inl (wsF (fun t => G (t + 11)) (tW (G 0) p0) (if 99 < (wrF (fun t => G (t + 11)) (tW (G 0) p0)) + (R 0) then 99 else (wrF (fun t => G (t + 11)) (tW (G 0) p0)) + (R 0)))))] H := hP
          have hD : va_D (Aw [(h0, gC hw G), (hw, wC kA G), (h9, rC R)]) [(h9, rC R), (h0, .inr (0, [.ref hw, .int (nW (G 0) p0), .int (nW (G 1) p0), .int (G 2), .int p0, .int (if 12 < (G 4) + 1 then 12 else (G 4) + 1), .int (if (G 5) - 1 < 0 then 0 else (G 5) - 1), .int (G 6), .int (G 7), .int (G 8), .int ((G 9) + 1), .int (G 10)])), (hw, .inl (kA 0, 24, .inl (wsF (fun t => G (t + 11)) (tW (G 0) p0) (if 99 < (wrF (fun t => G (t + 11)) (tW (G 0) p0)) + (R 0) then 99 else (wrF (fun t => G (t + 11)) (tW (G 0) p0)) + (R 0)))))] := hD
          refine lv_aload_n hx hb dX0_makeStep_164 rfl (lv_at hl 4 rfl) ?_
          refine lv_dup hx hb dX0_makeStep_165 rfl ?_
          refine va_get (ci := 0) (v := .int (G 6)) (C := RX0) (T := TX0) (N := 12) hx hb hts inX0 hown hK hP 1 rfl rfl 7 (by decide) (hts _ q_83) (fun _ h9 => h9) rfl dX0_makeStep_166 ?_
          refine lv_iconst (v := 1) hx hb dX0_makeStep_169 (by decide) ?_
          refine lv_iadd hx hb dX0_makeStep_170 ?_
          refine va_put (ci := 0) (v := .int ((G 6) + 1)) (ty := tyX0 7) (C := RX0) (T := TX0) (N := 12) hx hb hts inX0 tyX0 tyX0_ok nmX0 hown hK hP hD hS 1 rfl rfl 7 (by decide) (hts _ q_83) (fun _ h9 => h9) rfl (tyX0_ok 7 (by decide)) rfl rfl (Nat.le_of_ble_eq_true rfl) dX0_makeStep_171 (fun H locs hP hD hS => ?_)
          have hP : va_P D vwCl [(h9, rC R), (h0, .inr (0, [.ref hw, .int (nW (G 0) p0), .int (nW (G 1) p0), .int (G 2), .int p0, .int (if 12 < (G 4) + 1 then 12 else (G 4) + 1), .int (if (G 5) - 1 < 0 then 0 else (G 5) - 1), .int ((G 6) + 1), .int (G 7), .int (G 8), .int ((G 9) + 1), .int (G 10)])), (hw, .inl (kA 0, 24, .inl (wsF (fun t => G (t + 11)) (tW (G 0) p0) (if 99 < (wrF (fun t => G (t + 11)) (tW (G 0) p0)) + (R 0) then 99 else (wrF (fun t => G (t + 11)) (tW (G 0) p0)) + (R 0)))))] H := hP
          have hD : va_D (Aw [(h0, gC hw G), (hw, wC kA G), (h9, rC R)]) [(h9, rC R), (h0, .inr (0, [.ref hw, .int (nW (G 0) p0), .int (nW (G 1) p0), .int (G 2), .int p0, .int (if 12 < (G 4) + 1 then 12 else (G 4) + 1), .int (if (G 5) - 1 < 0 then 0 else (G 5) - 1), .int ((G 6) + 1), .int (G 7), .int (G 8), .int ((G 9) + 1), .int (G 10)])), (hw, .inl (kA 0, 24, .inl (wsF (fun t => G (t + 11)) (tW (G 0) p0) (if 99 < (wrF (fun t => G (t + 11)) (tW (G 0) p0)) + (R 0) then 99 else (wrF (fun t => G (t + 11)) (tW (G 0) p0)) + (R 0)))))] := hD
          refine lv_aload_n hx hb dX0_makeStep_174 rfl (lv_at hl 4 rfl) ?_
          refine lv_dup hx hb dX0_makeStep_175 rfl ?_
          refine va_get (ci := 0) (v := .int (G 8)) (C := RX0) (T := TX0) (N := 12) hx hb hts inX0 hown hK hP 1 rfl rfl 9 (by decide) (hts _ q_86) (fun _ h9 => h9) rfl dX0_makeStep_176 ?_
          refine lv_iload hx hb dX0_makeStep_179 (lv_at hl 1 rfl) ?_
          refine lv_iadd hx hb dX0_makeStep_181 ?_
          refine va_put (ci := 0) (v := .int ((G 8) + (tlF (G 2) (wrF (fun t => G (t + 11)) (tW (G 0) p0)) (G 5) (R 1)))) (ty := tyX0 9) (C := RX0) (T := TX0) (N := 12) hx hb hts inX0 tyX0 tyX0_ok nmX0 hown hK hP hD hS 1 rfl rfl 9 (by decide) (hts _ q_86) (fun _ h9 => h9) rfl (tyX0_ok 9 (by decide)) rfl rfl (Nat.le_of_ble_eq_true rfl) dX0_makeStep_182 (fun H locs hP hD hS => ?_)
          have hP : va_P D vwCl [(h9, rC R), (h0, .inr (0, [.ref hw, .int (nW (G 0) p0), .int (nW (G 1) p0), .int (G 2), .int p0, .int (if 12 < (G 4) + 1 then 12 else (G 4) + 1), .int (if (G 5) - 1 < 0 then 0 else (G 5) - 1), .int ((G 6) + 1), .int (G 7), .int ((G 8) + (tlF (G 2) (wrF (fun t => G (t + 11)) (tW (G 0) p0)) (G 5) (R 1))), .int ((G 9) + 1), .int (G 10)])), (hw, .inl (kA 0, 24, .inl (wsF (fun t => G (t + 11)) (tW (G 0) p0) (if 99 < (wrF (fun t => G (t + 11)) (tW (G 0) p0)) + (R 0) then 99 else (wrF (fun t => G (t + 11)) (tW (G 0) p0)) + (R 0)))))] H := hP
          have hD : va_D (Aw [(h0, gC hw G), (hw, wC kA G), (h9, rC R)]) [(h9, rC R), (h0, .inr (0, [.ref hw, .int (nW (G 0) p0), .int (nW (G 1) p0), .int (G 2), .int p0, .int (if 12 < (G 4) + 1 then 12 else (G 4) + 1), .int (if (G 5) - 1 < 0 then 0 else (G 5) - 1), .int ((G 6) + 1), .int (G 7), .int ((G 8) + (tlF (G 2) (wrF (fun t => G (t + 11)) (tW (G 0) p0)) (G 5) (R 1))), .int ((G 9) + 1), .int (G 10)])), (hw, .inl (kA 0, 24, .inl (wsF (fun t => G (t + 11)) (tW (G 0) p0) (if 99 < (wrF (fun t => G (t + 11)) (tW (G 0) p0)) + (R 0) then 99 else (wrF (fun t => G (t + 11)) (tW (G 0) p0)) + (R 0)))))] := hD
          refine lv_iload hx hb dX0_makeStep_185 (lv_at hl 1 rfl) ?_
          have hP : va_P D vwCl [(h0, .inr (0, [.ref hw, .int (nW (G 0) p0), .int (nW (G 1) p0), .int (G 2), .int p0, .int (if 12 < (G 4) + 1 then 12 else (G 4) + 1), .int (if (G 5) - 1 < 0 then 0 else (G 5) - 1), .int ((G 6) + 1), .int (G 7), .int ((G 8) + (tlF (G 2) (wrF (fun t => G (t + 11)) (tW (G 0) p0)) (G 5) (R 1))), .int ((G 9) + 1), .int (G 10)])), (hw, .inl (kA 0, 24, .inl (wsF (fun t => G (t + 11)) (tW (G 0) p0) (if 99 < (wrF (fun t => G (t + 11)) (tW (G 0) p0)) + (R 0) then 99 else (wrF (fun t => G (t + 11)) (tW (G 0) p0)) + (R 0))))), (h9, rC R)] _ := hP.sub [1, 2, 0] rfl
          exact end_fi hx hb hrt hlk hP hS (by first | rfl | (simp only [msR, tollG, gwr, c_1, c_2, c_4, c_5, ↓reduceIte, bI]; done) | (simp only [msR, tollG, gwr, c_1, c_2, c_4, c_5, ↓reduceIte, bI]; rfl) | (simp [msR, tollG, gwr, c_1, c_2, c_4, c_5, bI]; done)) (by intro h; have e9 : msG G R p0 p1 = mkG (nW (G 0) p0) (nW (G 1) p0) (G 2) p0 (if 12 < (G 4) + 1 then 12 else (G 4) + 1) (if (G 5) - 1 < 0 then 0 else (G 5) - 1) ((G 6) + 1) (G 7) ((G 8) + (tlF (G 2) (wrF (fun t => G (t + 11)) (tW (G 0) p0)) (G 5) (R 1))) ((G 9) + 1) (G 10) (wsF (fun t => G (t + 11)) (tW (G 0) p0) (if 99 < (wrF (fun t => G (t + 11)) (tW (G 0) p0)) + (R 0) then 99 else (wrF (fun t => G (t + 11)) (tW (G 0) p0)) + (R 0))) := (by first | (simp only [msG, stepG, tollG, gwr, turnG, c_1, c_2, c_4, c_5, ↓reduceIte, Bool.false_eq_true]; done) | (simp only [msG, stepG, tollG, gwr, turnG, c_1, c_2, c_4, c_5, ↓reduceIte, Bool.false_eq_true]; rfl) | (simp [msG, stepG, tollG, gwr, turnG, c_1, c_2, c_4, c_5]; done)); rw [e9]; exact h) dX0_makeStep_187
        · skip
          refine lv_aload_n hx hb dX0_makeStep_102 rfl (lv_at hl 4 rfl) ?_
          refine lv_dup hx hb dX0_makeStep_103 rfl ?_
          refine va_get (ci := 0) (v := .int (G 7)) (C := RX0) (T := TX0) (N := 12) hx hb hts inX0 hown hK hP 0 rfl rfl 8 (by decide) (hts _ q_85) (fun _ h9 => h9) rfl dX0_makeStep_104 ?_
          refine lv_iconst (v := 1) hx hb dX0_makeStep_107 (by decide) ?_
          refine lv_iadd hx hb dX0_makeStep_108 ?_
          refine va_put (ci := 0) (v := .int ((G 7) + 1)) (ty := tyX0 8) (C := RX0) (T := TX0) (N := 12) hx hb hts inX0 tyX0 tyX0_ok nmX0 hown hK hP hD hS 0 rfl rfl 8 (by decide) (hts _ q_85) (fun _ h9 => h9) rfl (tyX0_ok 8 (by decide)) rfl rfl (Nat.le_of_ble_eq_true rfl) dX0_makeStep_109 (fun H locs hP hD hS => ?_)
          have hP : va_P D vwCl [(h0, .inr (0, [.ref hw, .int (G 0), .int (nW (G 1) p0), .int (G 2), .int (G 3), .int (if 12 < (G 4) + 1 then 12 else (G 4) + 1), .int (G 5), .int (G 6), .int ((G 7) + 1), .int (G 8), .int ((G 9) + 1), .int (G 10)])), (hw, wC kA G), (h9, rC R)] H := hP
          have hD : va_D (Aw [(h0, gC hw G), (hw, wC kA G), (h9, rC R)]) [(h0, .inr (0, [.ref hw, .int (G 0), .int (nW (G 1) p0), .int (G 2), .int (G 3), .int (if 12 < (G 4) + 1 then 12 else (G 4) + 1), .int (G 5), .int (G 6), .int ((G 7) + 1), .int (G 8), .int ((G 9) + 1), .int (G 10)])), (hw, wC kA G), (h9, rC R)] := hD
          refine lv_goto (tgt := 127) hx hb dX0_makeStep_112 (by decide) ?_
          refine lv_aload_n hx hb dX0_makeStep_127 rfl (lv_at hl 4 rfl) ?_
          refine lv_iload hx hb dX0_makeStep_128 (lv_at hl 3 rfl) ?_
          refine lv_iload hx hb dX0_makeStep_130 (lv_at hl 2 rfl) ?_
          refine lv_aload_n hx hb dX0_makeStep_132 rfl (lv_at hl 7 rfl) ?_
          refine va_get (ci := 3) (v := .int (R 0)) (C := RX3) (T := TX3) (N := 6) hx hb hts inX3 hown hK hP 2 rfl rfl 0 (by decide) (hts _ q_38) (fun _ h9 => h9) rfl dX0_makeStep_133 ?_
          refine lv_iadd hx hb dX0_makeStep_136 ?_
          refine lv_bipush (v := 99) hx hb dX0_makeStep_137 (by decide) ?_
          refine va_mmin hx hb (hml.trans hl.1.symm) hown (hts _ q_261) (hts _ q_262) (hts _ q_13) (hts _ q_263) (Nat.le_of_ble_eq_true rfl) (Nat.le_of_ble_eq_true rfl) (Nat.zero_le _) (Nat.zero_le _) dX0_makeStep_139 ?_
          refine cs_fn (runV (As := [.int (tW (G 0) p0), .int (if 99 < (wrF (fun t => G (t + 11)) (tW (G 0) p0)) + (R 0) then 99 else (wrF (fun t => G (t + 11)) (tW (G 0) p0)) + (R 0))]) (rest := []) ⟨hx, hb, hml, hown, hts⟩ (m_X0_setWear l D kA h0 hw (G 0) (nW (G 1) p0) (G 2) (G 3) (if 12 < (G 4) + 1 then 12 else (G 4) + 1) (G 5) (G 6) ((G 7) + 1) (G 8) ((G 9) + 1) (G 10) (fun t => G (t + 11)) (tW (G 0) p0) (if 99 < (wrF (fun t => G (t + 11)) (tW (G 0) p0)) + (R 0) then 99 else (wrF (fun t => G (t + 11)) (tW (G 0) p0)) + (R 0)) ) q_355 q_356 q_357 q_4 q_358 hd_X0_setWear ⟨rfl, rfl⟩ ⟨Nat.le_of_ble_eq_true rfl, Nat.le_of_ble_eq_true rfl⟩ hK (ws := [(h0, .inr (0, [.ref hw, .int (G 0), .int (nW (G 1) p0), .int (G 2), .int (G 3), .int (if 12 < (G 4) + 1 then 12 else (G 4) + 1), .int (G 5), .int (G 6), .int ((G 7) + 1), .int (G 8), .int ((G 9) + 1), .int (G 10)])), (hw, .inl (kA 0, 24, .inl (fun t => G (t + 11))))]) (hP.sub [0, 1] rfl) (hD.sub [0, 1] (by decide) rfl) 0 (ci := 0) (C := RX0) (T := TX0) (N := 12) rfl rfl rfl hl.1 rfl (Nat.le_of_ble_eq_true rfl) dX0_makeStep_142 ⟨Nat.zero_le _, Nat.zero_le _⟩) hS (aw_sub hD (isC := [0, 1]) rfl) (fun H locs hP1 hk1 hS => ?_)
          obtain ⟨hP, hD⟩ := jn (wr := [(h9, rC R)]) (w1 := [(h0, .inr (0, [.ref hw, .int (G 0), .int (nW (G 1) p0), .int (G 2), .int (G 3), .int (if 12 < (G 4) + 1 then 12 else (G 4) + 1), .int (G 5), .int (G 6), .int ((G 7) + 1), .int (G 8), .int ((G 9) + 1), .int (G 10)])), (hw, .inl (kA 0, 24, .inl (wsF (fun t => G (t + 11)) (tW (G 0) p0) (if 99 < (wrF (fun t => G (t + 11)) (tW (G 0) p0)) + (R 0) then 99 else (wrF (fun t => G (t + 11)) (tW (G 0) p0)) + (R 0)))))]) hP hD [0, 1] [2] rfl rfl (by decide) hk1 hP1 rfl
          have hP : va_P D vwCl [(h9, rC R), (h0, .inr (0, [.ref hw, .int (G 0), .int (nW (G 1) p0), .int (G 2), .int (G 3), .int (if 12 < (G 4) + 1 then 12 else (G 4) + 1), .int (G 5), .int (G 6), .int ((G 7) + 1), .int (G 8), .int ((G 9) + 1), .int (G 10)])), (hw, .inl (kA 0, 24, .inl (wsF (fun t => G (t + 11)) (tW (G 0) p0) (if 99 < (wrF (fun t => G (t + 11)) (tW (G 0) p0)) + (R 0) then 99 else (wrF (fun t => G (t + 11)) (tW (G 0) p0)) + (R 0)))))] H := hP
          have hD : va_D (Aw [(h0, gC hw G), (hw, wC kA G), (h9, rC R)]) [(h9, rC R), (h0, .inr (0, [.ref hw, .int (G 0), .int (nW (G 1) p0), .int (G 2), .int (G 3), .int (if 12 < (G 4) + 1 then 12 else (G 4) + 1), .int (G 5), .int (G 6), .int ((G 7) + 1), .int (G 8), .int ((G 9) + 1), .int (G 10)])), (hw, .inl (kA 0, 24, .inl (wsF (fun t => G (t + 11)) (tW (G 0) p0) (if 99 < (wrF (fun t => G (t + 11)) (tW (G 0) p0)) + (R 0) then 99 else (wrF (fun t => G (t + 11)) (tW (G 0) p0)) + (R 0)))))] := hD
          refine lv_aload_n hx hb dX0_makeStep_145 rfl (lv_at hl 4 rfl) ?_
          refine lv_iload_n hx hb dX0_makeStep_146 rfl (lv_at hl 5 rfl) ?_
          refine va_put (ci := 0) (v := .int p0) (ty := tyX0 4) (C := RX0) (T := TX0) (N := 12) hx hb hts inX0 tyX0 tyX0_ok nmX0 hown hK hP hD hS 1 rfl rfl 4 (by decide) (hts _ q_79) (fun _ h9 => h9) rfl (tyX0_ok 4 (by decide)) rfl rfl (Nat.le_of_ble_eq_true rfl) dX0_makeStep_147 (fun H locs hP hD hS => ?_)
          have hP : va_P D vwCl [(h9, rC R), (h0, .inr (0, [.ref hw, .int (G 0), .int (nW (G 1) p0), .int (G 2), .int p0, .int (if 12 < (G 4) + 1 then 12 else (G 4) + 1), .int (G 5), .int (G 6), .int ((G 7) + 1), .int (G 8), .int ((G 9) + 1), .int (G 10)])), (hw, .inl (kA 0, 24, .inl (wsF (fun t => G (t + 11)) (tW (G 0) p0) (if 99 < (wrF (fun t => G (t + 11)) (tW (G 0) p0)) + (R 0) then 99 else (wrF (fun t => G (t + 11)) (tW (G 0) p0)) + (R 0)))))] H := hP
          have hD : va_D (Aw [(h0, gC hw G), (hw, wC kA G), (h9, rC R)]) [(h9, rC R), (h0, .inr (0, [.ref hw, .int (G 0), .int (nW (G 1) p0), .int (G 2), .int p0, .int (if 12 < (G 4) + 1 then 12 else (G 4) + 1), .int (G 5), .int (G 6), .int ((G 7) + 1), .int (G 8), .int ((G 9) + 1), .int (G 10)])), (hw, .inl (kA 0, 24, .inl (wsF (fun t => G (t + 11)) (tW (G 0) p0) (if 99 < (wrF (fun t => G (t + 11)) (tW (G 0) p0)) + (R 0) then 99 else (wrF (fun t => G (t + 11)) (tW (G 0) p0)) + (R 0)))))] := hD
          refine lv_aload_n hx hb dX0_makeStep_150 rfl (lv_at hl 4 rfl) ?_
          refine lv_aload_n hx hb dX0_makeStep_151 rfl (lv_at hl 4 rfl) ?_
          refine va_get (ci := 0) (v := .int (G 5)) (C := RX0) (T := TX0) (N := 12) hx hb hts inX0 hown hK hP 1 rfl rfl 6 (by decide) (hts _ q_81) (fun _ h9 => h9) rfl dX0_makeStep_152 ?_
          refine lv_iconst (v := 1) hx hb dX0_makeStep_155 (by decide) ?_
          refine lv_isub hx hb dX0_makeStep_156 ?_
          refine lv_iconst (v := 0) hx hb dX0_makeStep_157 (by decide) ?_
          refine va_mmax hx hb (hml.trans hl.1.symm) hown (hts _ q_359) (hts _ q_360) (hts _ q_13) (hts _ q_361) (Nat.le_of_ble_eq_true rfl) (Nat.le_of_ble_eq_true rfl) (Nat.zero_le _) (Nat.zero_le _) dX0_makeStep_158 ?_
          refine va_put (ci := 0) (v := .int (if (G 5) - 1 < 0 then 0 else (G 5) - 1)) (ty := tyX0 6) (C := RX0) (T := TX0) (N := 12) hx hb hts inX0 tyX0 tyX0_ok nmX0 hown hK hP hD hS 1 rfl rfl 6 (by decide) (hts _ q_81) (fun _ h9 => h9) rfl (tyX0_ok 6 (by decide)) rfl rfl (Nat.le_of_ble_eq_true rfl) dX0_makeStep_161 (fun H locs hP hD hS => ?_)
          have hP : va_P D vwCl [(h9, rC R), (h0, .inr (0, [.ref hw, .int (G 0), .int (nW (G 1) p0), .int (G 2), .int p0, .int (if 12 < (G 4) + 1 then 12 else (G 4) + 1), .int (if (G 5) - 1 < 0 then 0 else (G 5) - 1), .int (G 6), .int ((G 7) + 1), .int (G 8), .int ((G 9) + 1), .int (G 10)])), (hw, .inl (kA 0, 24, .inl (wsF (fun t => G (t + 11)) (tW (G 0) p0) (if 99 < (wrF (fun t => G (t + 11)) (tW (G 0) p0)) + (R 0) then 99 else (wrF (fun t => G (t + 11)) (tW (G 0) p0)) + (R 0)))))] H := hP
          have hD : va_D (Aw [(h0, gC hw G), (hw, wC kA G), (h9, rC R)]) [(h9, rC R), (h0, .inr (0, [.ref hw, .int (G 0), .int (nW (G 1) p0), .int (G 2), .int p0, .int (if 12 < (G 4) + 1 then 12 else (G 4) + 1), .int (if (G 5) - 1 < 0 then 0 else (G 5) - 1), .int (G 6), .int ((G 7) + 1), .int (G 8), .int ((G 9) + 1), .int (G 10)])), (hw, .inl (kA 0, 24, .inl (wsF (fun t => G (t + 11)) (tW (G 0) p0) (if 99 < (wrF (fun t => G (t + 11)) (tW (G 0) p0)) + (R 0) then 99 else (wrF (fun t => G (t + 11)) (tW (G 0) p0)) + (R 0)))))] := hD
          refine lv_aload_n hx hb dX0_makeStep_164 rfl (lv_at hl 4 rfl) ?_
          refine lv_dup hx hb dX0_makeStep_165 rfl ?_
          refine va_get (ci := 0) (v := .int (G 6)) (C := RX0) (T := TX0) (N := 12) hx hb hts inX0 hown hK hP 1 rfl rfl 7 (by decide) (hts _ q_83) (fun _ h9 => h9) rfl dX0_makeStep_166 ?_
          refine lv_iconst (v := 1) hx hb dX0_makeStep_169 (by decide) ?_
          refine lv_iadd hx hb dX0_makeStep_170 ?_
          refine va_put (ci := 0) (v := .int ((G 6) + 1)) (ty := tyX0 7) (C := RX0) (T := TX0) (N := 12) hx hb hts inX0 tyX0 tyX0_ok nmX0 hown hK hP hD hS 1 rfl rfl 7 (by decide) (hts _ q_83) (fun _ h9 => h9) rfl (tyX0_ok 7 (by decide)) rfl rfl (Nat.le_of_ble_eq_true rfl) dX0_makeStep_171 (fun H locs hP hD hS => ?_)
          have hP : va_P D vwCl [(h9, rC R), (h0, .inr (0, [.ref hw, .int (G 0), .int (nW (G 1) p0), .int (G 2), .int p0, .int (if 12 < (G 4) + 1 then 12 else (G 4) + 1), .int (if (G 5) - 1 < 0 then 0 else (G 5) - 1), .int ((G 6) + 1), .int ((G 7) + 1), .int (G 8), .int ((G 9) + 1), .int (G 10)])), (hw, .inl (kA 0, 24, .inl (wsF (fun t => G (t + 11)) (tW (G 0) p0) (if 99 < (wrF (fun t => G (t + 11)) (tW (G 0) p0)) + (R 0) then 99 else (wrF (fun t => G (t + 11)) (tW (G 0) p0)) + (R 0)))))] H := hP
          have hD : va_D (Aw [(h0, gC hw G), (hw, wC kA G), (h9, rC R)]) [(h9, rC R), (h0, .inr (0, [.ref hw, .int (G 0), .int (nW (G 1) p0), .int (G 2), .int p0, .int (if 12 < (G 4) + 1 then 12 else (G 4) + 1), .int (if (G 5) - 1 < 0 then 0 else (G 5) - 1), .int ((G 6) + 1), .int ((G 7) + 1), .int (G 8), .int ((G 9) + 1), .int (G 10)])), (hw, .inl (kA 0, 24, .inl (wsF (fun t => G (t + 11)) (tW (G 0) p0) (if 99 < (wrF (fun t => G (t + 11)) (tW (G 0) p0)) + (R 0) then 99 else (wrF (fun t => G (t + 11)) (tW (G 0) p0)) + (R 0)))))] := hD
          refine lv_aload_n hx hb dX0_makeStep_174 rfl (lv_at hl 4 rfl) ?_
          refine lv_dup hx hb dX0_makeStep_175 rfl ?_
          refine va_get (ci := 0) (v := .int (G 8)) (C := RX0) (T := TX0) (N := 12) hx hb hts inX0 hown hK hP 1 rfl rfl 9 (by decide) (hts _ q_86) (fun _ h9 => h9) rfl dX0_makeStep_176 ?_
          refine lv_iload hx hb dX0_makeStep_179 (lv_at hl 1 rfl) ?_
          refine lv_iadd hx hb dX0_makeStep_181 ?_
          refine va_put (ci := 0) (v := .int ((G 8) + (tlF (G 2) (wrF (fun t => G (t + 11)) (tW (G 0) p0)) (G 5) (R 1)))) (ty := tyX0 9) (C := RX0) (T := TX0) (N := 12) hx hb hts inX0 tyX0 tyX0_ok nmX0 hown hK hP hD hS 1 rfl rfl 9 (by decide) (hts _ q_86) (fun _ h9 => h9) rfl (tyX0_ok 9 (by decide)) rfl rfl (Nat.le_of_ble_eq_true rfl) dX0_makeStep_182 (fun H locs hP hD hS => ?_)
          have hP : va_P D vwCl [(h9, rC R), (h0, .inr (0, [.ref hw, .int (G 0), .int (nW (G 1) p0), .int (G 2), .int p0, .int (if 12 < (G 4) + 1 then 12 else (G 4) + 1), .int (if (G 5) - 1 < 0 then 0 else (G 5) - 1), .int ((G 6) + 1), .int ((G 7) + 1), .int ((G 8) + (tlF (G 2) (wrF (fun t => G (t + 11)) (tW (G 0) p0)) (G 5) (R 1))), .int ((G 9) + 1), .int (G 10)])), (hw, .inl (kA 0, 24, .inl (wsF (fun t => G (t + 11)) (tW (G 0) p0) (if 99 < (wrF (fun t => G (t + 11)) (tW (G 0) p0)) + (R 0) then 99 else (wrF (fun t => G (t + 11)) (tW (G 0) p0)) + (R 0)))))] H := hP
          have hD : va_D (Aw [(h0, gC hw G), (hw, wC kA G), (h9, rC R)]) [(h9, rC R), (h0, .inr (0, [.ref hw, .int (G 0), .int (nW (G 1) p0), .int (G 2), .int p0, .int (if 12 < (G 4) + 1 then 12 else (G 4) + 1), .int (if (G 5) - 1 < 0 then 0 else (G 5) - 1), .int ((G 6) + 1), .int ((G 7) + 1), .int ((G 8) + (tlF (G 2) (wrF (fun t => G (t + 11)) (tW (G 0) p0)) (G 5) (R 1))), .int ((G 9) + 1), .int (G 10)])), (hw, .inl (kA 0, 24, .inl (wsF (fun t => G (t + 11)) (tW (G 0) p0) (if 99 < (wrF (fun t => G (t + 11)) (tW (G 0) p0)) + (R 0) then 99 else (wrF (fun t => G (t + 11)) (tW (G 0) p0)) + (R 0)))))] := hD
          refine lv_iload hx hb dX0_makeStep_185 (lv_at hl 1 rfl) ?_
          have hP : va_P D vwCl [(h0, .inr (0, [.ref hw, .int (G 0), .int (nW (G 1) p0), .int (G 2), .int p0, .int (if 12 < (G 4) + 1 then 12 else (G 4) + 1), .int (if (G 5) - 1 < 0 then 0 else (G 5) - 1), .int ((G 6) + 1), .int ((G 7) + 1), .int ((G 8) + (tlF (G 2) (wrF (fun t => G (t + 11)) (tW (G 0) p0)) (G 5) (R 1))), .int ((G 9) + 1), .int (G 10)])), (hw, .inl (kA 0, 24, .inl (wsF (fun t => G (t + 11)) (tW (G 0) p0) (if 99 < (wrF (fun t => G (t + 11)) (tW (G 0) p0)) + (R 0) then 99 else (wrF (fun t => G (t + 11)) (tW (G 0) p0)) + (R 0))))), (h9, rC R)] _ := hP.sub [1, 2, 0] rfl
          exact end_fi hx hb hrt hlk hP hS (by first | rfl | (simp only [msR, tollG, gwr, c_1, c_2, c_4, c_5, ↓reduceIte, bI]; done) | (simp only [msR, tollG, gwr, c_1, c_2, c_4, c_5, ↓reduceIte, bI]; rfl) | (simp [msR, tollG, gwr, c_1, c_2, c_4, c_5, bI]; done)) (by intro h; have e9 : msG G R p0 p1 = mkG (G 0) (nW (G 1) p0) (G 2) p0 (if 12 < (G 4) + 1 then 12 else (G 4) + 1) (if (G 5) - 1 < 0 then 0 else (G 5) - 1) ((G 6) + 1) ((G 7) + 1) ((G 8) + (tlF (G 2) (wrF (fun t => G (t + 11)) (tW (G 0) p0)) (G 5) (R 1))) ((G 9) + 1) (G 10) (wsF (fun t => G (t + 11)) (tW (G 0) p0) (if 99 < (wrF (fun t => G (t + 11)) (tW (G 0) p0)) + (R 0) then 99 else (wrF (fun t => G (t + 11)) (tW (G 0) p0)) + (R 0))) := (by first | (simp only [msG, stepG, tollG, gwr, turnG, c_1, c_2, c_4, c_5, ↓reduceIte, Bool.false_eq_true]; done) | (simp only [msG, stepG, tollG, gwr, turnG, c_1, c_2, c_4, c_5, ↓reduceIte, Bool.false_eq_true]; rfl) | (simp [msG, stepG, tollG, gwr, turnG, c_1, c_2, c_4, c_5]; done)); rw [e9]; exact h) dX0_makeStep_187
  · skip
    replace c_1 := nge_l c_1
    refine lv_iconst (v := 0) hx hb dX0_makeStep_37 (by decide) ?_
    have hP : va_P D vwCl [(h0, gC hw G), (hw, wC kA G), (h9, rC R)] _ := hP.sub [0, 1, 2] rfl
    exact end_fi hx hb hrt hlk hP hS (by first | rfl | (simp only [msR, tollG, gwr, c_1, ↓reduceIte, bI]; done) | (simp only [msR, tollG, gwr, c_1, ↓reduceIte, bI]; rfl) | (simp [msR, tollG, gwr, c_1, bI]; done)) (by intro h; have e9 : msG G R p0 p1 = G := (by first | (simp only [msG, stepG, tollG, gwr, turnG, c_1, ↓reduceIte, Bool.false_eq_true]; done) | (simp only [msG, stepG, tollG, gwr, turnG, c_1, ↓reduceIte, Bool.false_eq_true]; rfl) | (simp [msG, stepG, tollG, gwr, turnG, c_1]; done)); rw [e9]; exact h) dX0_makeStep_38

theorem hd_X0_makeHomed : yX0_makeHomed.cls ≠ "java/lang/invoke/MethodHandle" ∧ yX0_makeHomed.cls ≠ "java/lang/invoke/VarHandle" ∧ (parseMethodDescriptor yX0_makeHomed.desc).map (fun d => d.parameters.length) = some 2 := by decide +kernel
set_option maxRecDepth 100000 in
set_option maxHeartbeats 4000000 in
theorem m_X0_makeHomed (l : Launch) (D : va_G) (kA : Nat → Nat) (h0 : Nat) (hw : Nat) (G : Nat → Int32) (h9 : Nat) (R : Nat → Int32) (p0 : Int32) : Met l yX0_makeHomed (Cond.code yX0_makeHomed cX0_makeHomed 6 (some .int) :: AW) ({ frames := 2, cells := 0, slots := 0, locals := 51 } : Room) (Pz [.ref h0, .int p0, .ref h9] D (TY kA) [(h0, gC hw G), (hw, wC kA G), (h9, rC R)]) (fQ (some (.int (hmP G R p0))) D [(h0, gC hw G), (hw, wC kA G), (h9, rC R)] [(h0, gC hw (hmG G R p0)), (hw, wC kA (hmG G R p0)), (h9, rC R)]) 0 0 (Aw [(h0, gC hw G), (hw, wC kA G), (h9, rC R)]) := by
  refine MetZ (by decide +kernel) (Nat.le_of_ble_eq_true rfl) ?_
  intro p e s m below meth c ls hx hb hrt hts hown hml hlk hnm hP hK hD hS hl
  have hl : lv_has ls 6 [(0, .ref h0), (1, .int p0), (2, .ref h9)] := hl
  refine lv_iconst (v := 0) hx hb dX0_makeHomed_0 (by decide) ?_
  refine lv_istore_n (lv' := [(3, .int 0), (0, .ref h0), (1, .int p0), (2, .ref h9)]) hx hb dX0_makeHomed_1 rfl hl (by decide) rfl (fun ls hl => ?_)
  refine lv_iconst (v := 0) hx hb dX0_makeHomed_2 (by decide) ?_
  refine lv_istore (lv' := [(4, .int 0), (3, .int 0), (0, .ref h0), (1, .int p0), (2, .ref h9)]) hx hb dX0_makeHomed_3 hl (by decide) rfl (fun ls hl => ?_)
  have loop_5 : ∀ (n : Nat) (j : Nat) (Gj : Nat → Int32) (x3 : Int32) (x4 : Int32) (hj : j + n = 40) (e4 : x4 = nI j) (hres : hmL R p0 n Gj x3 = hmL R p0 40 G 0), ∀ (H : Heap) (locs : List Loc), va_P D vwCl [(h0, gC hw Gj), (hw, wC kA Gj), (h9, rC R)] H → va_D (Aw [(h0, gC hw G), (hw, wC kA G), (h9, rC R)]) [(h0, gC hw Gj), (hw, wC kA Gj), (h9, rC R)] → va_S (Aw [(h0, gC hw G), (hw, wC kA G), (h9, rC R)]) s.heap H locs → ∀ ls : Array Slot, lv_has ls 6 [(0, .ref h0), (1, .int p0), (2, .ref h9), (3, .int x3), (4, .int x4)] → W p l e ({ frames := 2, cells := 0, slots := 0, locals := 51 } : Room) s m [.ref h0, .int p0, .ref h9].toArray below meth c H locs 0 0 (MQ below (fQ (some (.int (hmP G R p0))) D [(h0, gC hw G), (hw, wC kA G), (h9, rC R)] [(h0, gC hw (hmG G R p0)), (hw, wC kA (hmG G R p0)), (h9, rC R)]) [.ref h0, .int p0, .ref h9].toArray s 0 0 (Aw [(h0, gC hw G), (hw, wC kA G), (h9, rC R)])) (F0 m 5 ls []) := by
    clear hl
    clear hP hD hS
    intro n
    induction n with
    | zero =>
      intro j Gj x3 x4 hj e4 hres H locs hP hD hS ls hl
      refine lv_iload hx hb dX0_makeHomed_5 (lv_at hl 4 rfl) ?_
      refine lv_bipush (v := 40) hx hb dX0_makeHomed_7 (by decide) ?_
      refine lv_icmp_ge (tgt := 49) hx hb dX0_makeHomed_9 (by decide) (fun c_1 => ?_) (fun c_1 => ?_)
      · skip
        replace c_1 := ge_n c_1
        refine lv_aload_n hx hb dX0_makeHomed_49 rfl (lv_at hl 0 rfl) ?_
        refine va_get (ci := 0) (v := .int (Gj 0)) (C := RX0) (T := TX0) (N := 12) hx hb hts inX0 hown hK hP 0 rfl rfl 1 (by decide) (hts _ q_71) (fun _ h9 => h9) rfl dX0_makeHomed_50 ?_
        refine lv_if_ne (tgt := 81) hx hb dX0_makeHomed_53 (by decide) (fun c_2 => ?_) (fun c_2 => ?_)
        · skip
          refine lv_iload_n hx hb dX0_makeHomed_81 rfl (lv_at hl 3 rfl) ?_
          have hP : va_P D vwCl [(h0, gC hw Gj), (hw, wC kA Gj), (h9, rC R)] _ := hP.sub [0, 1, 2] rfl
          exact end_fi hx hb hrt hlk hP hS (by simp only [hmP]; rw [← hres]; first | rfl | (simp only [hmL, c_1, c_2, ↓reduceIte]; done)) (by intro h; have e9 : hmG G R p0 = Gj := (by first | (simp only [hmG]; rw [← hres]; simp only [hmL, hm1, c_1, c_2, ↓reduceIte, Bool.false_eq_true]; done) | (simp only [hmG]; rw [← hres]; simp only [hmL, hm1, c_1, c_2, ↓reduceIte, Bool.false_eq_true]; rfl) | (simp only [hmG]; rw [← hres]; simp [hmL, hm1, c_1, c_2]; done)); rw [e9]; exact h) dX0_makeHomed_82
        · skip
          refine lv_aload_n hx hb dX0_makeHomed_56 rfl (lv_at hl 0 rfl) ?_
          refine lv_iconst (v := 0) hx hb dX0_makeHomed_57 (by decide) ?_
          refine va_put (ci := 0) (v := .int 0) (ty := tyX0 2) (C := RX0) (T := TX0) (N := 12) hx hb hts inX0 tyX0 tyX0_ok nmX0 hown hK hP hD hS 0 rfl rfl 2 (by decide) (hts _ q_74) (fun _ h9 => h9) rfl (tyX0_ok 2 (by decide)) rfl rfl (Nat.le_of_ble_eq_true rfl) dX0_makeHomed_58 (fun H locs hP hD hS => ?_)
          have hP : va_P D vwCl [(h0, .inr (0, [.ref hw, .int (Gj 0), .int 0, .int (Gj 2), .int (Gj 3), .int (Gj 4), .int (Gj 5), .int (Gj 6), .int (Gj 7), .int (Gj 8), .int (Gj 9), .int (Gj 10)])), (hw, wC kA Gj), (h9, rC R)] H := hP
          have hD : va_D (Aw [(h0, gC hw G), (hw, wC kA G), (h9, rC R)]) [(h0, .inr (0, [.ref hw, .int (Gj 0), .int 0, .int (Gj 2), .int (Gj 3), .int (Gj 4), .int (Gj 5), .int (Gj 6), .int (Gj 7), .int (Gj 8), .int (Gj 9), .int (Gj 10)])), (hw, wC kA Gj), (h9, rC R)] := hD
          refine lv_aload_n hx hb dX0_makeHomed_61 rfl (lv_at hl 0 rfl) ?_
          refine lv_iconst (v := 0) hx hb dX0_makeHomed_62 (by decide) ?_
          refine va_put (ci := 0) (v := .int 0) (ty := tyX0 5) (C := RX0) (T := TX0) (N := 12) hx hb hts inX0 tyX0 tyX0_ok nmX0 hown hK hP hD hS 0 rfl rfl 5 (by decide) (hts _ q_80) (fun _ h9 => h9) rfl (tyX0_ok 5 (by decide)) rfl rfl (Nat.le_of_ble_eq_true rfl) dX0_makeHomed_63 (fun H locs hP hD hS => ?_)
          have hP : va_P D vwCl [(h0, .inr (0, [.ref hw, .int (Gj 0), .int 0, .int (Gj 2), .int (Gj 3), .int 0, .int (Gj 5), .int (Gj 6), .int (Gj 7), .int (Gj 8), .int (Gj 9), .int (Gj 10)])), (hw, wC kA Gj), (h9, rC R)] H := hP
          have hD : va_D (Aw [(h0, gC hw G), (hw, wC kA G), (h9, rC R)]) [(h0, .inr (0, [.ref hw, .int (Gj 0), .int 0, .int (Gj 2), .int (Gj 3), .int 0, .int (Gj 5), .int (Gj 6), .int (Gj 7), .int (Gj 8), .int (Gj 9), .int (Gj 10)])), (hw, wC kA Gj), (h9, rC R)] := hD
          refine lv_aload_n hx hb dX0_makeHomed_66 rfl (lv_at hl 0 rfl) ?_
          refine lv_iconst (v := 0) hx hb dX0_makeHomed_67 (by decide) ?_
          refine va_put (ci := 0) (v := .int 0) (ty := tyX0 4) (C := RX0) (T := TX0) (N := 12) hx hb hts inX0 tyX0 tyX0_ok nmX0 hown hK hP hD hS 0 rfl rfl 4 (by decide) (hts _ q_79) (fun _ h9 => h9) rfl (tyX0_ok 4 (by decide)) rfl rfl (Nat.le_of_ble_eq_true rfl) dX0_makeHomed_68 (fun H locs hP hD hS => ?_)
          have hP : va_P D vwCl [(h0, .inr (0, [.ref hw, .int (Gj 0), .int 0, .int (Gj 2), .int 0, .int 0, .int (Gj 5), .int (Gj 6), .int (Gj 7), .int (Gj 8), .int (Gj 9), .int (Gj 10)])), (hw, wC kA Gj), (h9, rC R)] H := hP
          have hD : va_D (Aw [(h0, gC hw G), (hw, wC kA G), (h9, rC R)]) [(h0, .inr (0, [.ref hw, .int (Gj 0), .int 0, .int (Gj 2), .int 0, .int 0, .int (Gj 5), .int (Gj 6), .int (Gj 7), .int (Gj 8), .int (Gj 9), .int (Gj 10)])), (hw, wC kA Gj), (h9, rC R)] := hD
          refine lv_aload_n hx hb dX0_makeHomed_71 rfl (lv_at hl 0 rfl) ?_
          refine lv_dup hx hb dX0_makeHomed_72 rfl ?_
          refine va_get (ci := 0) (v := .int (Gj 10)) (C := RX0) (T := TX0) (N := 12) hx hb hts inX0 hown hK hP 0 rfl rfl 11 (by decide) (hts _ q_88) (fun _ h9 => h9) rfl dX0_makeHomed_73 ?_
          refine lv_iconst (v := 1) hx hb dX0_makeHomed_76 (by decide) ?_
          refine lv_iadd hx hb dX0_makeHomed_77 ?_
          refine va_put (ci := 0) (v := .int ((Gj 10) + 1)) (ty := tyX0 11) (C := RX0) (T := TX0) (N := 12) hx hb hts inX0 tyX0 tyX0_ok nmX0 hown hK hP hD hS 0 rfl rfl 11 (by decide) (hts _ q_88) (fun _ h9 => h9) rfl (tyX0_ok 11 (by decide)) rfl rfl (Nat.le_of_ble_eq_true rfl) dX0_makeHomed_78 (fun H locs hP hD hS => ?_)
          have hP : va_P D vwCl [(h0, .inr (0, [.ref hw, .int (Gj 0), .int 0, .int (Gj 2), .int 0, .int 0, .int (Gj 5), .int (Gj 6), .int (Gj 7), .int (Gj 8), .int (Gj 9), .int ((Gj 10) + 1)])), (hw, wC kA Gj), (h9, rC R)] H := hP
          have hD : va_D (Aw [(h0, gC hw G), (hw, wC kA G), (h9, rC R)]) [(h0, .inr (0, [.ref hw, .int (Gj 0), .int 0, .int (Gj 2), .int 0, .int 0, .int (Gj 5), .int (Gj 6), .int (Gj 7), .int (Gj 8), .int (Gj 9), .int ((Gj 10) + 1)])), (hw, wC kA Gj), (h9, rC R)] := hD
          refine lv_iload_n hx hb dX0_makeHomed_81 rfl (lv_at hl 3 rfl) ?_
          have hP : va_P D vwCl [(h0, .inr (0, [.ref hw, .int (Gj 0), .int 0, .int (Gj 2), .int 0, .int 0, .int (Gj 5), .int (Gj 6), .int (Gj 7), .int (Gj 8), .int (Gj 9), .int ((Gj 10) + 1)])), (hw, wC kA Gj), (h9, rC R)] _ := hP.sub [0, 1, 2] rfl
          exact end_fi hx hb hrt hlk hP hS (by simp only [hmP]; rw [← hres]; first | rfl | (simp only [hmL, c_1, c_2, ↓reduceIte]; done)) (by intro h; have e9 : hmG G R p0 = mkG (Gj 0) 0 (Gj 2) 0 0 (Gj 5) (Gj 6) (Gj 7) (Gj 8) (Gj 9) ((Gj 10) + 1) (fun t => Gj (t + 11)) := (by first | (simp only [hmG]; rw [← hres]; simp only [hmL, hm1, c_1, c_2, ↓reduceIte, Bool.false_eq_true]; done) | (simp only [hmG]; rw [← hres]; simp only [hmL, hm1, c_1, c_2, ↓reduceIte, Bool.false_eq_true]; rfl) | (simp only [hmG]; rw [← hres]; simp [hmL, hm1, c_1, c_2]; done)); rw [e9]; exact h) dX0_makeHomed_82
      · exact absurd c_1 (fun h => h (cnt_ge (N := 40) e4 rfl (by omega) (by omega)))
    | succ n ih5 =>
      intro j Gj x3 x4 hj e4 hres H locs hP hD hS ls hl
      refine lv_iload hx hb dX0_makeHomed_5 (lv_at hl 4 rfl) ?_
      refine lv_bipush (v := 40) hx hb dX0_makeHomed_7 (by decide) ?_
      refine lv_icmp_ge (tgt := 49) hx hb dX0_makeHomed_9 (by decide) (fun c_3 => ?_) (fun c_3 => ?_)
      · exact absurd c_3 (cnt_nge (N := 40) e4 rfl (by decide) (by omega))
      · skip
        replace c_3 := nge_l c_3
        refine lv_aload_n hx hb dX0_makeHomed_12 rfl (lv_at hl 0 rfl) ?_
        refine va_get (ci := 0) (v := .int (Gj 0)) (C := RX0) (T := TX0) (N := 12) hx hb hts inX0 hown hK hP 0 rfl rfl 1 (by decide) (hts _ q_71) (fun _ h9 => h9) rfl dX0_makeHomed_13 ?_
        refine lv_if_eq (tgt := 49) hx hb dX0_makeHomed_16 (by decide) (fun c_4 => ?_) (fun c_4 => ?_)
        · skip
          refine lv_aload_n hx hb dX0_makeHomed_49 rfl (lv_at hl 0 rfl) ?_
          refine va_get (ci := 0) (v := .int (Gj 0)) (C := RX0) (T := TX0) (N := 12) hx hb hts inX0 hown hK hP 0 rfl rfl 1 (by decide) (hts _ q_71) (fun _ h9 => h9) rfl dX0_makeHomed_50 ?_
          refine lv_if_ne (tgt := 81) hx hb dX0_makeHomed_53 (by decide) (fun c_5 => ?_) (fun c_5 => ?_)
          · exact absurd c_4 c_5
          · skip
            refine lv_aload_n hx hb dX0_makeHomed_56 rfl (lv_at hl 0 rfl) ?_
            refine lv_iconst (v := 0) hx hb dX0_makeHomed_57 (by decide) ?_
            refine va_put (ci := 0) (v := .int 0) (ty := tyX0 2) (C := RX0) (T := TX0) (N := 12) hx hb hts inX0 tyX0 tyX0_ok nmX0 hown hK hP hD hS 0 rfl rfl 2 (by decide) (hts _ q_74) (fun _ h9 => h9) rfl (tyX0_ok 2 (by decide)) rfl rfl (Nat.le_of_ble_eq_true rfl) dX0_makeHomed_58 (fun H locs hP hD hS => ?_)
            have hP : va_P D vwCl [(h0, .inr (0, [.ref hw, .int (Gj 0), .int 0, .int (Gj 2), .int (Gj 3), .int (Gj 4), .int (Gj 5), .int (Gj 6), .int (Gj 7), .int (Gj 8), .int (Gj 9), .int (Gj 10)])), (hw, wC kA Gj), (h9, rC R)] H := hP
            have hD : va_D (Aw [(h0, gC hw G), (hw, wC kA G), (h9, rC R)]) [(h0, .inr (0, [.ref hw, .int (Gj 0), .int 0, .int (Gj 2), .int (Gj 3), .int (Gj 4), .int (Gj 5), .int (Gj 6), .int (Gj 7), .int (Gj 8), .int (Gj 9), .int (Gj 10)])), (hw, wC kA Gj), (h9, rC R)] := hD
            refine lv_aload_n hx hb dX0_makeHomed_61 rfl (lv_at hl 0 rfl) ?_
            refine lv_iconst (v := 0) hx hb dX0_makeHomed_62 (by decide) ?_
            refine va_put (ci := 0) (v := .int 0) (ty := tyX0 5) (C := RX0) (T := TX0) (N := 12) hx hb hts inX0 tyX0 tyX0_ok nmX0 hown hK hP hD hS 0 rfl rfl 5 (by decide) (hts _ q_80) (fun _ h9 => h9) rfl (tyX0_ok 5 (by decide)) rfl rfl (Nat.le_of_ble_eq_true rfl) dX0_makeHomed_63 (fun H locs hP hD hS => ?_)
            have hP : va_P D vwCl [(h0, .inr (0, [.ref hw, .int (Gj 0), .int 0, .int (Gj 2), .int (Gj 3), .int 0, .int (Gj 5), .int (Gj 6), .int (Gj 7), .int (Gj 8), .int (Gj 9), .int (Gj 10)])), (hw, wC kA Gj), (h9, rC R)] H := hP
            have hD : va_D (Aw [(h0, gC hw G), (hw, wC kA G), (h9, rC R)]) [(h0, .inr (0, [.ref hw, .int (Gj 0), .int 0, .int (Gj 2), .int (Gj 3), .int 0, .int (Gj 5), .int (Gj 6), .int (Gj 7), .int (Gj 8), .int (Gj 9), .int (Gj 10)])), (hw, wC kA Gj), (h9, rC R)] := hD
            refine lv_aload_n hx hb dX0_makeHomed_66 rfl (lv_at hl 0 rfl) ?_
            refine lv_iconst (v := 0) hx hb dX0_makeHomed_67 (by decide) ?_
            refine va_put (ci := 0) (v := .int 0) (ty := tyX0 4) (C := RX0) (T := TX0) (N := 12) hx hb hts inX0 tyX0 tyX0_ok nmX0 hown hK hP hD hS 0 rfl rfl 4 (by decide) (hts _ q_79) (fun _ h9 => h9) rfl (tyX0_ok 4 (by decide)) rfl rfl (Nat.le_of_ble_eq_true rfl) dX0_makeHomed_68 (fun H locs hP hD hS => ?_)
            have hP : va_P D vwCl [(h0, .inr (0, [.ref hw, .int (Gj 0), .int 0, .int (Gj 2), .int 0, .int 0, .int (Gj 5), .int (Gj 6), .int (Gj 7), .int (Gj 8), .int (Gj 9), .int (Gj 10)])), (hw, wC kA Gj), (h9, rC R)] H := hP
            have hD : va_D (Aw [(h0, gC hw G), (hw, wC kA G), (h9, rC R)]) [(h0, .inr (0, [.ref hw, .int (Gj 0), .int 0, .int (Gj 2), .int 0, .int 0, .int (Gj 5), .int (Gj 6), .int (Gj 7), .int (Gj 8), .int (Gj 9), .int (Gj 10)])), (hw, wC kA Gj), (h9, rC R)] := hD
            refine lv_aload_n hx hb dX0_makeHomed_71 rfl (lv_at hl 0 rfl) ?_
            refine lv_dup hx hb dX0_makeHomed_72 rfl ?_
            refine va_get (ci := 0) (v := .int (Gj 10)) (C := RX0) (T := TX0) (N := 12) hx hb hts inX0 hown hK hP 0 rfl rfl 11 (by decide) (hts _ q_88) (fun _ h9 => h9) rfl dX0_makeHomed_73 ?_
            refine lv_iconst (v := 1) hx hb dX0_makeHomed_76 (by decide) ?_
            refine lv_iadd hx hb dX0_makeHomed_77 ?_
            refine va_put (ci := 0) (v := .int ((Gj 10) + 1)) (ty := tyX0 11) (C := RX0) (T := TX0) (N := 12) hx hb hts inX0 tyX0 tyX0_ok nmX0 hown hK hP hD hS 0 rfl rfl 11 (by decide) (hts _ q_88) (fun _ h9 => h9) rfl (tyX0_ok 11 (by decide)) rfl rfl (Nat.le_of_ble_eq_true rfl) dX0_makeHomed_78 (fun H locs hP hD hS => ?_)
            have hP : va_P D vwCl [(h0, .inr (0, [.ref hw, .int (Gj 0), .int 0, .int (Gj 2), .int 0, .int 0, .int (Gj 5), .int (Gj 6), .int (Gj 7), .int (Gj 8), .int (Gj 9), .int ((Gj 10) + 1)])), (hw, wC kA Gj), (h9, rC R)] H := hP
            have hD : va_D (Aw [(h0, gC hw G), (hw, wC kA G), (h9, rC R)]) [(h0, .inr (0, [.ref hw, .int (Gj 0), .int 0, .int (Gj 2), .int 0, .int 0, .int (Gj 5), .int (Gj 6), .int (Gj 7), .int (Gj 8), .int (Gj 9), .int ((Gj 10) + 1)])), (hw, wC kA Gj), (h9, rC R)] := hD
            refine lv_iload_n hx hb dX0_makeHomed_81 rfl (lv_at hl 3 rfl) ?_
            have hP : va_P D vwCl [(h0, .inr (0, [.ref hw, .int (Gj 0), .int 0, .int (Gj 2), .int 0, .int 0, .int (Gj 5), .int (Gj 6), .int (Gj 7), .int (Gj 8), .int (Gj 9), .int ((Gj 10) + 1)])), (hw, wC kA Gj), (h9, rC R)] _ := hP.sub [0, 1, 2] rfl
            exact end_fi hx hb hrt hlk hP hS (by simp only [hmP]; rw [← hres]; first | rfl | (simp only [hmL, c_3, c_4, c_5, ↓reduceIte]; done)) (by intro h; have e9 : hmG G R p0 = mkG (Gj 0) 0 (Gj 2) 0 0 (Gj 5) (Gj 6) (Gj 7) (Gj 8) (Gj 9) ((Gj 10) + 1) (fun t => Gj (t + 11)) := (by first | (simp only [hmG]; rw [← hres]; simp only [hmL, hm1, c_3, c_4, c_5, ↓reduceIte, Bool.false_eq_true]; done) | (simp only [hmG]; rw [← hres]; simp only [hmL, hm1, c_3, c_4, c_5, ↓reduceIte, Bool.false_eq_true]; rfl) | (simp only [hmG]; rw [← hres]; simp [hmL, hm1, c_3, c_4, c_5]; done)); rw [e9]; exact h) dX0_makeHomed_82
        · skip
          refine lv_aload_n hx hb dX0_makeHomed_19 rfl (lv_at hl 0 rfl) ?_
          refine lv_iconst (v := (-1)) hx hb dX0_makeHomed_20 (by decide) ?_
          refine lv_iload_n hx hb dX0_makeHomed_21 rfl (lv_at hl 1 rfl) ?_
          refine lv_iload_n hx hb dX0_makeHomed_22 rfl (lv_at hl 3 rfl) ?_
          refine lv_isub hx hb dX0_makeHomed_23 ?_
          refine lv_aload_n hx hb dX0_makeHomed_24 rfl (lv_at hl 2 rfl) ?_
          refine cs_fs (runV (As := [.int (-1), .int (p0 - x3), .ref h9]) (rest := []) ⟨hx, hb, hml, hown, hts⟩ (m_X0_makeStep l D kA h0 hw Gj h9 R (-1) (p0 - x3) ) q_350 q_351 q_352 q_4 q_353 hd_X0_makeStep ⟨rfl, rfl⟩ ⟨Nat.le_of_ble_eq_true rfl, Nat.le_of_ble_eq_true rfl⟩ hK (ws := [(h0, gC hw Gj), (hw, wC kA Gj), (h9, rC R)]) (hP.sub [0, 1, 2] rfl) (hD.sub [0, 1, 2] (by decide) rfl) 0 (ci := 0) (C := RX0) (T := TX0) (N := 12) rfl rfl rfl hl.1 rfl (Nat.le_of_ble_eq_true rfl) dX0_makeHomed_25 ⟨Nat.zero_le _, Nat.zero_le _⟩) hS (aw_sub hD (isC := [0, 1, 2]) rfl) (fun H locs hP1 hk1 hS => ?_)
          obtain ⟨hP, hD⟩ := jn (wr := []) (w1 := [(h0, gC hw (msG Gj R (-1) (p0 - x3))), (hw, wC kA (msG Gj R (-1) (p0 - x3))), (h9, rC R)]) hP hD [0, 1, 2] [] rfl rfl (by decide) hk1 hP1 rfl
          have hP : va_P D vwCl [(h0, gC hw (msG Gj R (-1) (p0 - x3))), (hw, wC kA (msG Gj R (-1) (p0 - x3))), (h9, rC R)] H := hP
          have hD : va_D (Aw [(h0, gC hw G), (hw, wC kA G), (h9, rC R)]) [(h0, gC hw (msG Gj R (-1) (p0 - x3))), (hw, wC kA (msG Gj R (-1) (p0 - x3))), (h9, rC R)] := hD
          refine lv_istore (lv' := [(5, .int (msR Gj R (-1) (p0 - x3))), (0, .ref h0), (1, .int p0), (2, .ref h9), (3, .int x3), (4, .int x4)]) hx hb dX0_makeHomed_28 hl (by decide) rfl (fun ls hl => ?_)
          refine lv_iload hx hb dX0_makeHomed_30 (lv_at hl 0 rfl) ?_
          refine lv_if_ne (tgt := 38) hx hb dX0_makeHomed_32 (by decide) (fun c_6 => ?_) (fun c_6 => ?_)
          · skip
            refine lv_iload_n hx hb dX0_makeHomed_38 rfl (lv_at hl 4 rfl) ?_
            refine lv_iload hx hb dX0_makeHomed_39 (lv_at hl 0 rfl) ?_
            refine lv_iadd hx hb dX0_makeHomed_41 ?_
            refine lv_istore_n (lv' := [(3, .int (x3 + (msR Gj R (-1) (p0 - x3)))), (5, .int (msR Gj R (-1) (p0 - x3))), (0, .ref h0), (1, .int p0), (2, .ref h9), (4, .int x4)]) hx hb dX0_makeHomed_42 rfl hl (by decide) rfl (fun ls hl => ?_)
            refine lv_iinc (v := x4 + 1) (lv' := [(4, .int (x4 + 1)), (3, .int (x3 + (msR Gj R (-1) (p0 - x3)))), (5, .int (msR Gj R (-1) (p0 - x3))), (0, .ref h0), (1, .int p0), (2, .ref h9)]) hx hb dX0_makeHomed_43 hl (k := 5) rfl (by first | rfl | exact congrArg (_ + ·) (by decide)) (by decide) rfl (fun ls hl => ?_)
            refine lv_goto (tgt := 5) hx hb dX0_makeHomed_46 (by decide) ?_
            exact ih5 (j + 1) (msG Gj R (-1) (p0 - x3)) (x3 + (msR Gj R (-1) (p0 - x3))) (x4 + 1) (by omega) (by rw [e4]; exact nI_1 j) (by rw [← hres]; simp only [hmL, c_3, c_4, c_6, ↓reduceIte]) _ _ (hP.sub [0, 1, 2] rfl) (hD.sub [0, 1, 2] (by decide) rfl) hS ls (lv_sub hl [3, 4, 5, 1, 0] rfl)
          · skip
            refine lv_goto (tgt := 49) hx hb dX0_makeHomed_35 (by decide) ?_
            refine lv_aload_n hx hb dX0_makeHomed_49 rfl (lv_at hl 1 rfl) ?_
            refine va_get (ci := 0) (v := .int ((msG Gj R (-1) (p0 - x3)) 0)) (C := RX0) (T := TX0) (N := 12) hx hb hts inX0 hown hK hP 0 rfl rfl 1 (by decide) (hts _ q_71) (fun _ h9 => h9) rfl dX0_makeHomed_50 ?_
            refine lv_if_ne (tgt := 81) hx hb dX0_makeHomed_53 (by decide) (fun c_7 => ?_) (fun c_7 => ?_)
            · skip
              refine lv_iload_n hx hb dX0_makeHomed_81 rfl (lv_at hl 4 rfl) ?_
              have hP : va_P D vwCl [(h0, gC hw (msG Gj R (-1) (p0 - x3))), (hw, wC kA (msG Gj R (-1) (p0 - x3))), (h9, rC R)] _ := hP.sub [0, 1, 2] rfl
              exact end_fi hx hb hrt hlk hP hS (by simp only [hmP]; rw [← hres]; first | rfl | (simp only [hmL, c_3, c_4, c_6, c_7, ↓reduceIte]; done)) (by intro h; have e9 : hmG G R p0 = (msG Gj R (-1) (p0 - x3)) := (by first | (simp only [hmG]; rw [← hres]; simp only [hmL, hm1, c_3, c_4, c_6, c_7, ↓reduceIte, Bool.false_eq_true]; done) | (simp only [hmG]; rw [← hres]; simp only [hmL, hm1, c_3, c_4, c_6, c_7, ↓reduceIte, Bool.false_eq_true]; rfl) | (simp only [hmG]; rw [← hres]; simp [hmL, hm1, c_3, c_4, c_6, c_7]; done)); rw [e9]; exact h) dX0_makeHomed_82
            · skip
              refine lv_aload_n hx hb dX0_makeHomed_56 rfl (lv_at hl 1 rfl) ?_
              refine lv_iconst (v := 0) hx hb dX0_makeHomed_57 (by decide) ?_
              refine va_put (ci := 0) (v := .int 0) (ty := tyX0 2) (C := RX0) (T := TX0) (N := 12) hx hb hts inX0 tyX0 tyX0_ok nmX0 hown hK hP hD hS 0 rfl rfl 2 (by decide) (hts _ q_74) (fun _ h9 => h9) rfl (tyX0_ok 2 (by decide)) rfl rfl (Nat.le_of_ble_eq_true rfl) dX0_makeHomed_58 (fun H locs hP hD hS => ?_)
              have hP : va_P D vwCl [(h0, .inr (0, [.ref hw, .int ((msG Gj R (-1) (p0 - x3)) 0), .int 0, .int ((msG Gj R (-1) (p0 - x3)) 2), .int ((msG Gj R (-1) (p0 - x3)) 3), .int ((msG Gj R (-1) (p0 - x3)) 4), .int ((msG Gj R (-1) (p0 - x3)) 5), .int ((msG Gj R (-1) (p0 - x3)) 6), .int ((msG Gj R (-1) (p0 - x3)) 7), .int ((msG Gj R (-1) (p0 - x3)) 8), .int ((msG Gj R (-1) (p0 - x3)) 9), .int ((msG Gj R (-1) (p0 - x3)) 10)])), (hw, wC kA (msG Gj R (-1) (p0 - x3))), (h9, rC R)] H := hP
              have hD : va_D (Aw [(h0, gC hw G), (hw, wC kA G), (h9, rC R)]) [(h0, .inr (0, [.ref hw, .int ((msG Gj R (-1) (p0 - x3)) 0), .int 0, .int ((msG Gj R (-1) (p0 - x3)) 2), .int ((msG Gj R (-1) (p0 - x3)) 3), .int ((msG Gj R (-1) (p0 - x3)) 4), .int ((msG Gj R (-1) (p0 - x3)) 5), .int ((msG Gj R (-1) (p0 - x3)) 6), .int ((msG Gj R (-1) (p0 - x3)) 7), .int ((msG Gj R (-1) (p0 - x3)) 8), .int ((msG Gj R (-1) (p0 - x3)) 9), .int ((msG Gj R (-1) (p0 - x3)) 10)])), (hw, wC kA (msG Gj R (-1) (p0 - x3))), (h9, rC R)] := hD
              refine lv_aload_n hx hb dX0_makeHomed_61 rfl (lv_at hl 1 rfl) ?_
              refine lv_iconst (v := 0) hx hb dX0_makeHomed_62 (by decide) ?_
              refine va_put (ci := 0) (v := .int 0) (ty := tyX0 5) (C := RX0) (T := TX0) (N := 12) hx hb hts inX0 tyX0 tyX0_ok nmX0 hown hK hP hD hS 0 rfl rfl 5 (by decide) (hts _ q_80) (fun _ h9 => h9) rfl (tyX0_ok 5 (by decide)) rfl rfl (Nat.le_of_ble_eq_true rfl) dX0_makeHomed_63 (fun H locs hP hD hS => ?_)
              have hP : va_P D vwCl [(h0, .inr (0, [.ref hw, .int ((msG Gj R (-1) (p0 - x3)) 0), .int 0, .int ((msG Gj R (-1) (p0 - x3)) 2), .int ((msG Gj R (-1) (p0 - x3)) 3), .int 0, .int ((msG Gj R (-1) (p0 - x3)) 5), .int ((msG Gj R (-1) (p0 - x3)) 6), .int ((msG Gj R (-1) (p0 - x3)) 7), .int ((msG Gj R (-1) (p0 - x3)) 8), .int ((msG Gj R (-1) (p0 - x3)) 9), .int ((msG Gj R (-1) (p0 - x3)) 10)])), (hw, wC kA (msG Gj R (-1) (p0 - x3))), (h9, rC R)] H := hP
              have hD : va_D (Aw [(h0, gC hw G), (hw, wC kA G), (h9, rC R)]) [(h0, .inr (0, [.ref hw, .int ((msG Gj R (-1) (p0 - x3)) 0), .int 0, .int ((msG Gj R (-1) (p0 - x3)) 2), .int ((msG Gj R (-1) (p0 - x3)) 3), .int 0, .int ((msG Gj R (-1) (p0 - x3)) 5), .int ((msG Gj R (-1) (p0 - x3)) 6), .int ((msG Gj R (-1) (p0 - x3)) 7), .int ((msG Gj R (-1) (p0 - x3)) 8), .int ((msG Gj R (-1) (p0 - x3)) 9), .int ((msG Gj R (-1) (p0 - x3)) 10)])), (hw, wC kA (msG Gj R (-1) (p0 - x3))), (h9, rC R)] := hD
              refine lv_aload_n hx hb dX0_makeHomed_66 rfl (lv_at hl 1 rfl) ?_
              refine lv_iconst (v := 0) hx hb dX0_makeHomed_67 (by decide) ?_
              refine va_put (ci := 0) (v := .int 0) (ty := tyX0 4) (C := RX0) (T := TX0) (N := 12) hx hb hts inX0 tyX0 tyX0_ok nmX0 hown hK hP hD hS 0 rfl rfl 4 (by decide) (hts _ q_79) (fun _ h9 => h9) rfl (tyX0_ok 4 (by decide)) rfl rfl (Nat.le_of_ble_eq_true rfl) dX0_makeHomed_68 (fun H locs hP hD hS => ?_)
              have hP : va_P D vwCl [(h0, .inr (0, [.ref hw, .int ((msG Gj R (-1) (p0 - x3)) 0), .int 0, .int ((msG Gj R (-1) (p0 - x3)) 2), .int 0, .int 0, .int ((msG Gj R (-1) (p0 - x3)) 5), .int ((msG Gj R (-1) (p0 - x3)) 6), .int ((msG Gj R (-1) (p0 - x3)) 7), .int ((msG Gj R (-1) (p0 - x3)) 8), .int ((msG Gj R (-1) (p0 - x3)) 9), .int ((msG Gj R (-1) (p0 - x3)) 10)])), (hw, wC kA (msG Gj R (-1) (p0 - x3))), (h9, rC R)] H := hP
              have hD : va_D (Aw [(h0, gC hw G), (hw, wC kA G), (h9, rC R)]) [(h0, .inr (0, [.ref hw, .int ((msG Gj R (-1) (p0 - x3)) 0), .int 0, .int ((msG Gj R (-1) (p0 - x3)) 2), .int 0, .int 0, .int ((msG Gj R (-1) (p0 - x3)) 5), .int ((msG Gj R (-1) (p0 - x3)) 6), .int ((msG Gj R (-1) (p0 - x3)) 7), .int ((msG Gj R (-1) (p0 - x3)) 8), .int ((msG Gj R (-1) (p0 - x3)) 9), .int ((msG Gj R (-1) (p0 - x3)) 10)])), (hw, wC kA (msG Gj R (-1) (p0 - x3))), (h9, rC R)] := hD
              refine lv_aload_n hx hb dX0_makeHomed_71 rfl (lv_at hl 1 rfl) ?_
              refine lv_dup hx hb dX0_makeHomed_72 rfl ?_
              refine va_get (ci := 0) (v := .int ((msG Gj R (-1) (p0 - x3)) 10)) (C := RX0) (T := TX0) (N := 12) hx hb hts inX0 hown hK hP 0 rfl rfl 11 (by decide) (hts _ q_88) (fun _ h9 => h9) rfl dX0_makeHomed_73 ?_
              refine lv_iconst (v := 1) hx hb dX0_makeHomed_76 (by decide) ?_
              refine lv_iadd hx hb dX0_makeHomed_77 ?_
              refine va_put (ci := 0) (v := .int (((msG Gj R (-1) (p0 - x3)) 10) + 1)) (ty := tyX0 11) (C := RX0) (T := TX0) (N := 12) hx hb hts inX0 tyX0 tyX0_ok nmX0 hown hK hP hD hS 0 rfl rfl 11 (by decide) (hts _ q_88) (fun _ h9 => h9) rfl (tyX0_ok 11 (by decide)) rfl rfl (Nat.le_of_ble_eq_true rfl) dX0_makeHomed_78 (fun H locs hP hD hS => ?_)
              have hP : va_P D vwCl [(h0, .inr (0, [.ref hw, .int ((msG Gj R (-1) (p0 - x3)) 0), .int 0, .int ((msG Gj R (-1) (p0 - x3)) 2), .int 0, .int 0, .int ((msG Gj R (-1) (p0 - x3)) 5), .int ((msG Gj R (-1) (p0 - x3)) 6), .int ((msG Gj R (-1) (p0 - x3)) 7), .int ((msG Gj R (-1) (p0 - x3)) 8), .int ((msG Gj R (-1) (p0 - x3)) 9), .int (((msG Gj R (-1) (p0 - x3)) 10) + 1)])), (hw, wC kA (msG Gj R (-1) (p0 - x3))), (h9, rC R)] H := hP
              have hD : va_D (Aw [(h0, gC hw G), (hw, wC kA G), (h9, rC R)]) [(h0, .inr (0, [.ref hw, .int ((msG Gj R (-1) (p0 - x3)) 0), .int 0, .int ((msG Gj R (-1) (p0 - x3)) 2), .int 0, .int 0, .int ((msG Gj R (-1) (p0 - x3)) 5), .int ((msG Gj R (-1) (p0 - x3)) 6), .int ((msG Gj R (-1) (p0 - x3)) 7), .int ((msG Gj R (-1) (p0 - x3)) 8), .int ((msG Gj R (-1) (p0 - x3)) 9), .int (((msG Gj R (-1) (p0 - x3)) 10) + 1)])), (hw, wC kA (msG Gj R (-1) (p0 - x3))), (h9, rC R)] := hD
              refine lv_iload_n hx hb dX0_makeHomed_81 rfl (lv_at hl 4 rfl) ?_
              have hP : va_P D vwCl [(h0, .inr (0, [.ref hw, .int ((msG Gj R (-1) (p0 - x3)) 0), .int 0, .int ((msG Gj R (-1) (p0 - x3)) 2), .int 0, .int 0, .int ((msG Gj R (-1) (p0 - x3)) 5), .int ((msG Gj R (-1) (p0 - x3)) 6), .int ((msG Gj R (-1) (p0 - x3)) 7), .int ((msG Gj R (-1) (p0 - x3)) 8), .int ((msG Gj R (-1) (p0 - x3)) 9), .int (((msG Gj R (-1) (p0 - x3)) 10) + 1)])), (hw, wC kA (msG Gj R (-1) (p0 - x3))), (h9, rC R)] _ := hP.sub [0, 1, 2] rfl
              exact end_fi hx hb hrt hlk hP hS (by simp only [hmP]; rw [← hres]; first | rfl | (simp only [hmL, c_3, c_4, c_6, c_7, ↓reduceIte]; done)) (by intro h; have e9 : hmG G R p0 = mkG ((msG Gj R (-1) (p0 - x3)) 0) 0 ((msG Gj R (-1) (p0 - x3)) 2) 0 0 ((msG Gj R (-1) (p0 - x3)) 5) ((msG Gj R (-1) (p0 - x3)) 6) ((msG Gj R (-1) (p0 - x3)) 7) ((msG Gj R (-1) (p0 - x3)) 8) ((msG Gj R (-1) (p0 - x3)) 9) (((msG Gj R (-1) (p0 - x3)) 10) + 1) (fun t => (msG Gj R (-1) (p0 - x3)) (t + 11)) := (by first | (simp only [hmG]; rw [← hres]; simp only [hmL, hm1, c_3, c_4, c_6, c_7, ↓reduceIte, Bool.false_eq_true]; done) | (simp only [hmG]; rw [← hres]; simp only [hmL, hm1, c_3, c_4, c_6, c_7, ↓reduceIte, Bool.false_eq_true]; rfl) | (simp only [hmG]; rw [← hres]; simp [hmL, hm1, c_3, c_4, c_6, c_7]; done)); rw [e9]; exact h) dX0_makeHomed_82
  exact loop_5 40 0 G 0 0 (by omega) (nI_0.symm) (rfl) _ _ (hP.sub [0, 1, 2] rfl) (hD.sub [0, 1, 2] (by decide) rfl) hS ls (lv_sub hl [2, 3, 4, 1, 0] rfl)

theorem hd_X0_costOfWay : yX0_costOfWay.cls ≠ "java/lang/invoke/MethodHandle" ∧ yX0_costOfWay.cls ≠ "java/lang/invoke/VarHandle" ∧ (parseMethodDescriptor yX0_costOfWay.desc).map (fun d => d.parameters.length) = some 4 := by decide +kernel
set_option maxRecDepth 100000 in
set_option maxHeartbeats 4000000 in
theorem m_X0_costOfWay (l : Launch) (D : va_G) (kA : Nat → Nat) (h0 : Nat) (hw : Nat) (G : Nat → Int32) (h9 : Nat) (R : Nat → Int32) (p0 : Int32) (p1 : Int32) (p2 : Int32) : Met l yX0_costOfWay (Cond.code yX0_costOfWay cX0_costOfWay 10 (some .int) :: AW) ({ frames := 1, cells := 0, slots := 0, locals := 24 } : Room) (Pz [.ref h0, .int p0, .int p1, .int p2, .ref h9] D (TY kA) [(h0, gC hw G), (hw, wC kA G), (h9, rC R)]) (pQ (some (.int (costG G R p0 p1 p2)))) 0 0 (fun _ => False) := by
  refine MetZ (by decide +kernel) (Nat.le_of_ble_eq_true rfl) ?_
  intro p e s m below meth c ls hx hb hrt hts hown hml hlk hnm hP hK hD hS hl
  have hl : lv_has ls 10 [(0, .ref h0), (1, .int p0), (2, .int p1), (3, .int p2), (4, .ref h9)] := hl
  refine lv_aload_n hx hb dX0_costOfWay_0 rfl (lv_at hl 0 rfl) ?_
  refine va_get (ci := 0) (v := .int (G 1)) (C := RX0) (T := TX0) (N := 12) hx hb hts inX0 hown hK hP 0 rfl rfl 2 (by decide) (hts _ q_74) (fun _ h9 => h9) rfl dX0_costOfWay_1 ?_
  refine lv_istore (lv' := [(5, .int (G 1)), (0, .ref h0), (1, .int p0), (2, .int p1), (3, .int p2), (4, .ref h9)]) hx hb dX0_costOfWay_4 hl (by decide) rfl (fun ls hl => ?_)
  refine lv_iconst (v := 0) hx hb dX0_costOfWay_6 (by decide) ?_
  refine lv_istore (lv' := [(6, .int 0), (5, .int (G 1)), (0, .ref h0), (1, .int p0), (2, .int p1), (3, .int p2), (4, .ref h9)]) hx hb dX0_costOfWay_7 hl (by decide) rfl (fun ls hl => ?_)
  refine lv_iconst (v := 0) hx hb dX0_costOfWay_9 (by decide) ?_
  refine lv_istore (lv' := [(7, .int 0), (6, .int 0), (5, .int (G 1)), (0, .ref h0), (1, .int p0), (2, .int p1), (3, .int p2), (4, .ref h9)]) hx hb dX0_costOfWay_10 hl (by decide) rfl (fun ls hl => ?_)
  have loop_12 : ∀ (n : Nat) (j : Nat) (x5 : Int32) (x6 : Int32) (x7 : Int32) (hj : j + n = 24) (e7 : x7 = nI j) (hres : coL G R p0 p1 p2 n x5 x7 x6 = costG G R p0 p1 p2), ∀ ls : Array Slot, lv_has ls 10 [(0, .ref h0), (1, .int p0), (2, .int p1), (3, .int p2), (4, .ref h9), (5, .int x5), (6, .int x6), (7, .int x7)] → W p l e ({ frames := 1, cells := 0, slots := 0, locals := 24 } : Room) s m [.ref h0, .int p0, .int p1, .int p2, .ref h9].toArray below meth c s.heap [] 0 0 (MQ below (pQ (some (.int (costG G R p0 p1 p2)))) [.ref h0, .int p0, .int p1, .int p2, .ref h9].toArray s 0 0 (fun _ => False)) (F0 m 12 ls []) := by
    clear hl
    intro n
    induction n with
    | zero =>
      intro j x5 x6 x7 hj e7 hres  ls hl
      refine lv_iload hx hb dX0_costOfWay_12 (lv_at hl 7 rfl) ?_
      refine lv_bipush (v := 24) hx hb dX0_costOfWay_14 (by decide) ?_
      refine lv_icmp_ge (tgt := 85) hx hb dX0_costOfWay_16 (by decide) (fun c_1 => ?_) (fun c_1 => ?_)
      · skip
        replace c_1 := ge_n c_1
        refine lv_iload hx hb dX0_costOfWay_85 (lv_at hl 6 rfl) ?_
        exact end_pi hx hb hrt hlk (by rw [← hres]; first | rfl | (simp only [coL, c_1, ↓reduceIte]; done)) dX0_costOfWay_87
      · exact absurd c_1 (fun h => h (cnt_ge (N := 24) e7 rfl (by omega) (by omega)))
    | succ n ih12 =>
      intro j x5 x6 x7 hj e7 hres  ls hl
      refine lv_iload hx hb dX0_costOfWay_12 (lv_at hl 7 rfl) ?_
      refine lv_bipush (v := 24) hx hb dX0_costOfWay_14 (by decide) ?_
      refine lv_icmp_ge (tgt := 85) hx hb dX0_costOfWay_16 (by decide) (fun c_2 => ?_) (fun c_2 => ?_)
      · exact absurd c_2 (cnt_nge (N := 24) e7 rfl (by decide) (by omega))
      · skip
        replace c_2 := nge_l c_2
        refine lv_iload hx hb dX0_costOfWay_19 (lv_at hl 5 rfl) ?_
        refine lv_iload_n hx hb dX0_costOfWay_21 rfl (lv_at hl 1 rfl) ?_
        refine lv_icmp_eq (tgt := 85) hx hb dX0_costOfWay_22 (by decide) (fun c_3 => ?_) (fun c_3 => ?_)
        · skip
          refine lv_iload hx hb dX0_costOfWay_85 (lv_at hl 6 rfl) ?_
          exact end_pi hx hb hrt hlk (by rw [← hres]; first | rfl | (simp only [coL, c_2, c_3, ↓reduceIte]; done)) dX0_costOfWay_87
        · skip
          refine lv_iload hx hb dX0_costOfWay_25 (lv_at hl 5 rfl) ?_
          refine lv_iload_n hx hb dX0_costOfWay_27 rfl (lv_at hl 2 rfl) ?_
          refine cs_p (runS (As := [.int x5, .int p1]) (rest := []) ⟨hx, hb, hml, hown, hts⟩ (m_X0_toothBy l D kA x5 p1 ) q_311 q_312 q_4 q_313 hd_X0_toothBy ⟨rfl, rfl⟩ ⟨Nat.le_of_ble_eq_true rfl, Nat.le_of_ble_eq_true rfl⟩ hK (ws := []) (hP.sub [] rfl) (hD.sub [] (by decide) rfl) rfl hl.1 rfl (Nat.le_of_ble_eq_true rfl) dX0_costOfWay_28 ⟨Nat.zero_le _, Nat.zero_le _⟩) ?_
          refine lv_istore (lv' := [(8, .int (tW x5 p1)), (0, .ref h0), (1, .int p0), (2, .int p1), (3, .int p2), (4, .ref h9), (5, .int x5), (6, .int x6), (7, .int x7)]) hx hb dX0_costOfWay_31 hl (by decide) rfl (fun ls hl => ?_)
          refine lv_iload hx hb dX0_costOfWay_33 (lv_at hl 0 rfl) ?_
          refine lv_iload_n hx hb dX0_costOfWay_35 rfl (lv_at hl 4 rfl) ?_
          refine lv_icmp_ne (tgt := 43) hx hb dX0_costOfWay_36 (by decide) (fun c_4 => ?_) (fun c_4 => ?_)
          · skip
            refine lv_aload_n hx hb dX0_costOfWay_43 rfl (lv_at hl 1 rfl) ?_
            refine lv_iload hx hb dX0_costOfWay_44 (lv_at hl 0 rfl) ?_
            refine cs_p (runV (As := [.int (tW x5 p1)]) (rest := []) ⟨hx, hb, hml, hown, hts⟩ (m_X0_wearOf l D kA h0 hw (G 0) (G 1) (G 2) (G 3) (G 4) (G 5) (G 6) (G 7) (G 8) (G 9) (G 10) (fun t => G (t + 11)) (tW x5 p1) ) q_314 q_278 q_279 q_4 q_280 hd_X0_wearOf ⟨rfl, rfl⟩ ⟨Nat.le_of_ble_eq_true rfl, Nat.le_of_ble_eq_true rfl⟩ hK (ws := [(h0, .inr (0, [.ref hw, .int (G 0), .int (G 1), .int (G 2), .int (G 3), .int (G 4), .int (G 5), .int (G 6), .int (G 7), .int (G 8), .int (G 9), .int (G 10)])), (hw, .inl (kA 0, 24, .inl (fun t => G (t + 11))))]) (hP.sub [0, 1] rfl) (hD.sub [0, 1] (by decide) rfl) 0 (ci := 0) (C := RX0) (T := TX0) (N := 12) rfl rfl rfl hl.1 rfl (Nat.le_of_ble_eq_true rfl) dX0_costOfWay_46 ⟨Nat.zero_le _, Nat.zero_le _⟩) ?_
            refine lv_istore (lv' := [(9, .int (wrF (fun t => G (t + 11)) (tW x5 p1))), (8, .int (tW x5 p1)), (0, .ref h0), (1, .int p0), (2, .int p1), (3, .int p2), (4, .ref h9), (5, .int x5), (6, .int x6), (7, .int x7)]) hx hb dX0_costOfWay_49 hl (by decide) rfl (fun ls hl => ?_)
            refine lv_iload hx hb dX0_costOfWay_51 (lv_at hl 8 rfl) ?_
            refine lv_aload_n hx hb dX0_costOfWay_53 rfl (lv_at hl 2 rfl) ?_
            refine lv_iload hx hb dX0_costOfWay_54 (lv_at hl 0 rfl) ?_
            refine lv_aload_n hx hb dX0_costOfWay_56 rfl (lv_at hl 2 rfl) ?_
            refine va_get (ci := 0) (v := .int (G 5)) (C := RX0) (T := TX0) (N := 12) hx hb hts inX0 hown hK hP 0 rfl rfl 6 (by decide) (hts _ q_81) (fun _ h9 => h9) rfl dX0_costOfWay_57 ?_
            refine lv_iload hx hb dX0_costOfWay_60 (lv_at hl 9 rfl) ?_
            refine lv_isub hx hb dX0_costOfWay_62 ?_
            refine lv_aload hx hb dX0_costOfWay_63 (lv_at hl 6 rfl) ?_
            refine cs_p (runV (As := [.int (wrF (fun t => G (t + 11)) (tW x5 p1)), .int ((G 5) - x7), .ref h9]) (rest := [.int x6]) ⟨hx, hb, hml, hown, hts⟩ (m_X0_tollWith l D kA h0 hw (G 0) (G 1) (G 2) (G 3) (G 4) (G 5) (G 6) (G 7) (G 8) (G 9) (G 10) h9 (R 0) (R 1) (R 2) (R 3) (R 4) (R 5) (wrF (fun t => G (t + 11)) (tW x5 p1)) ((G 5) - x7) ) q_315 q_316 q_317 q_4 q_318 hd_X0_tollWith ⟨rfl, rfl⟩ ⟨Nat.le_of_ble_eq_true rfl, Nat.le_of_ble_eq_true rfl⟩ hK (ws := [(h0, .inr (0, [.ref hw, .int (G 0), .int (G 1), .int (G 2), .int (G 3), .int (G 4), .int (G 5), .int (G 6), .int (G 7), .int (G 8), .int (G 9), .int (G 10)])), (h9, .inr (3, [.int (R 0), .int (R 1), .int (R 2), .int (R 3), .int (R 4), .int (R 5)]))]) (hP.sub [0, 2] rfl) (hD.sub [0, 2] (by decide) rfl) 0 (ci := 0) (C := RX0) (T := TX0) (N := 12) rfl rfl rfl hl.1 rfl (Nat.le_of_ble_eq_true rfl) dX0_costOfWay_65 ⟨Nat.zero_le _, Nat.zero_le _⟩) ?_
            refine lv_iadd hx hb dX0_costOfWay_68 ?_
            refine lv_istore (lv' := [(6, .int (x6 + (tlF (G 2) (wrF (fun t => G (t + 11)) (tW x5 p1)) ((G 5) - x7) (R 1)))), (9, .int (wrF (fun t => G (t + 11)) (tW x5 p1))), (8, .int (tW x5 p1)), (0, .ref h0), (1, .int p0), (2, .int p1), (3, .int p2), (4, .ref h9), (5, .int x5), (7, .int x7)]) hx hb dX0_costOfWay_69 hl (by decide) rfl (fun ls hl => ?_)
            refine lv_iload hx hb dX0_costOfWay_71 (lv_at hl 8 rfl) ?_
            refine lv_iload_n hx hb dX0_costOfWay_73 rfl (lv_at hl 5 rfl) ?_
            refine cs_p (runS (As := [.int x5, .int p1]) (rest := []) ⟨hx, hb, hml, hown, hts⟩ (m_X0_nextPlace l D kA x5 p1 ) q_332 q_333 q_4 q_334 hd_X0_nextPlace ⟨rfl, rfl⟩ ⟨Nat.le_of_ble_eq_true rfl, Nat.le_of_ble_eq_true rfl⟩ hK (ws := []) (hP.sub [] rfl) (hD.sub [] (by decide) rfl) rfl hl.1 rfl (Nat.le_of_ble_eq_true rfl) dX0_costOfWay_74 ⟨Nat.zero_le _, Nat.zero_le _⟩) ?_
            refine lv_istore (lv' := [(5, .int (nW x5 p1)), (6, .int (x6 + (tlF (G 2) (wrF (fun t => G (t + 11)) (tW x5 p1)) ((G 5) - x7) (R 1)))), (9, .int (wrF (fun t => G (t + 11)) (tW x5 p1))), (8, .int (tW x5 p1)), (0, .ref h0), (1, .int p0), (2, .int p1), (3, .int p2), (4, .ref h9), (7, .int x7)]) hx hb dX0_costOfWay_77 hl (by decide) rfl (fun ls hl => ?_)
            refine lv_iinc (v := x7 + 1) (lv' := [(7, .int (x7 + 1)), (5, .int (nW x5 p1)), (6, .int (x6 + (tlF (G 2) (wrF (fun t => G (t + 11)) (tW x5 p1)) ((G 5) - x7) (R 1)))), (9, .int (wrF (fun t => G (t + 11)) (tW x5 p1))), (8, .int (tW x5 p1)), (0, .ref h0), (1, .int p0), (2, .int p1), (3, .int p2), (4, .ref h9)]) hx hb dX0_costOfWay_79 hl (k := 9) rfl (by first | rfl | exact congrArg (_ + ·) (by decide)) (by decide) rfl (fun ls hl => ?_)
            refine lv_goto (tgt := 12) hx hb dX0_costOfWay_82 (by decide) ?_
            exact ih12 (j + 1) (nW x5 p1) (x6 + (tlF (G 2) (wrF (fun t => G (t + 11)) (tW x5 p1)) ((G 5) - x7) (R 1))) (x7 + 1) (by omega) (by rw [e7]; exact nI_1 j) (by rw [← hres]; simp only [coL, gwr, c_2, c_3, c_4, ↓reduceIte]) ls (lv_sub hl [5, 6, 7, 8, 9, 1, 2, 0] rfl)
          · skip
            refine lv_iconst (v := 0) hx hb dX0_costOfWay_39 (by decide) ?_
            refine lv_goto (tgt := 49) hx hb dX0_costOfWay_40 (by decide) ?_
            refine lv_istore (lv' := [(9, .int 0), (8, .int (tW x5 p1)), (0, .ref h0), (1, .int p0), (2, .int p1), (3, .int p2), (4, .ref h9), (5, .int x5), (6, .int x6), (7, .int x7)]) hx hb dX0_costOfWay_49 hl (by decide) rfl (fun ls hl => ?_)
            refine lv_iload hx hb dX0_costOfWay_51 (lv_at hl 8 rfl) ?_
            refine lv_aload_n hx hb dX0_costOfWay_53 rfl (lv_at hl 2 rfl) ?_
            refine lv_iload hx hb dX0_costOfWay_54 (lv_at hl 0 rfl) ?_
            refine lv_aload_n hx hb dX0_costOfWay_56 rfl (lv_at hl 2 rfl) ?_
            refine va_get (ci := 0) (v := .int (G 5)) (C := RX0) (T := TX0) (N := 12) hx hb hts inX0 hown hK hP 0 rfl rfl 6 (by decide) (hts _ q_81) (fun _ h9 => h9) rfl dX0_costOfWay_57 ?_
            refine lv_iload hx hb dX0_costOfWay_60 (lv_at hl 9 rfl) ?_
            refine lv_isub hx hb dX0_costOfWay_62 ?_
            refine lv_aload hx hb dX0_costOfWay_63 (lv_at hl 6 rfl) ?_
            refine cs_p (runV (As := [.int 0, .int ((G 5) - x7), .ref h9]) (rest := [.int x6]) ⟨hx, hb, hml, hown, hts⟩ (m_X0_tollWith l D kA h0 hw (G 0) (G 1) (G 2) (G 3) (G 4) (G 5) (G 6) (G 7) (G 8) (G 9) (G 10) h9 (R 0) (R 1) (R 2) (R 3) (R 4) (R 5) 0 ((G 5) - x7) ) q_315 q_316 q_317 q_4 q_318 hd_X0_tollWith ⟨rfl, rfl⟩ ⟨Nat.le_of_ble_eq_true rfl, Nat.le_of_ble_eq_true rfl⟩ hK (ws := [(h0, .inr (0, [.ref hw, .int (G 0), .int (G 1), .int (G 2), .int (G 3), .int (G 4), .int (G 5), .int (G 6), .int (G 7), .int (G 8), .int (G 9), .int (G 10)])), (h9, .inr (3, [.int (R 0), .int (R 1), .int (R 2), .int (R 3), .int (R 4), .int (R 5)]))]) (hP.sub [0, 2] rfl) (hD.sub [0, 2] (by decide) rfl) 0 (ci := 0) (C := RX0) (T := TX0) (N := 12) rfl rfl rfl hl.1 rfl (Nat.le_of_ble_eq_true rfl) dX0_costOfWay_65 ⟨Nat.zero_le _, Nat.zero_le _⟩) ?_
            refine lv_iadd hx hb dX0_costOfWay_68 ?_
            refine lv_istore (lv' := [(6, .int (x6 + (tlF (G 2) 0 ((G 5) - x7) (R 1)))), (9, .int 0), (8, .int (tW x5 p1)), (0, .ref h0), (1, .int p0), (2, .int p1), (3, .int p2), (4, .ref h9), (5, .int x5), (7, .int x7)]) hx hb dX0_costOfWay_69 hl (by decide) rfl (fun ls hl => ?_)
            refine lv_iload hx hb dX0_costOfWay_71 (lv_at hl 8 rfl) ?_
            refine lv_iload_n hx hb dX0_costOfWay_73 rfl (lv_at hl 5 rfl) ?_
            refine cs_p (runS (As := [.int x5, .int p1]) (rest := []) ⟨hx, hb, hml, hown, hts⟩ (m_X0_nextPlace l D kA x5 p1 ) q_332 q_333 q_4 q_334 hd_X0_nextPlace ⟨rfl, rfl⟩ ⟨Nat.le_of_ble_eq_true rfl, Nat.le_of_ble_eq_true rfl⟩ hK (ws := []) (hP.sub [] rfl) (hD.sub [] (by decide) rfl) rfl hl.1 rfl (Nat.le_of_ble_eq_true rfl) dX0_costOfWay_74 ⟨Nat.zero_le _, Nat.zero_le _⟩) ?_
            refine lv_istore (lv' := [(5, .int (nW x5 p1)), (6, .int (x6 + (tlF (G 2) 0 ((G 5) - x7) (R 1)))), (9, .int 0), (8, .int (tW x5 p1)), (0, .ref h0), (1, .int p0), (2, .int p1), (3, .int p2), (4, .ref h9), (7, .int x7)]) hx hb dX0_costOfWay_77 hl (by decide) rfl (fun ls hl => ?_)
            refine lv_iinc (v := x7 + 1) (lv' := [(7, .int (x7 + 1)), (5, .int (nW x5 p1)), (6, .int (x6 + (tlF (G 2) 0 ((G 5) - x7) (R 1)))), (9, .int 0), (8, .int (tW x5 p1)), (0, .ref h0), (1, .int p0), (2, .int p1), (3, .int p2), (4, .ref h9)]) hx hb dX0_costOfWay_79 hl (k := 9) rfl (by first | rfl | exact congrArg (_ + ·) (by decide)) (by decide) rfl (fun ls hl => ?_)
            refine lv_goto (tgt := 12) hx hb dX0_costOfWay_82 (by decide) ?_
            exact ih12 (j + 1) (nW x5 p1) (x6 + (tlF (G 2) 0 ((G 5) - x7) (R 1))) (x7 + 1) (by omega) (by rw [e7]; exact nI_1 j) (by rw [← hres]; simp only [coL, gwr, c_2, c_3, c_4, ↓reduceIte]) ls (lv_sub hl [5, 6, 7, 8, 9, 1, 2, 0] rfl)
  exact loop_12 24 0 (G 1) 0 0 (by omega) (nI_0.symm) (rfl) ls (lv_sub hl [3, 4, 5, 6, 7, 2, 1, 0] rfl)

theorem hd_X0_possiblePlaces : yX0_possiblePlaces.cls ≠ "java/lang/invoke/MethodHandle" ∧ yX0_possiblePlaces.cls ≠ "java/lang/invoke/VarHandle" ∧ (parseMethodDescriptor yX0_possiblePlaces.desc).map (fun d => d.parameters.length) = some 0 := by decide +kernel
set_option maxRecDepth 100000 in
set_option maxHeartbeats 4000000 in
theorem m_X0_possiblePlaces (l : Launch) (D : va_G) (kA : Nat → Nat) (h0 : Nat) (hw : Nat) (G : Nat → Int32) : Met l yX0_possiblePlaces (Cond.code yX0_possiblePlaces cX0_possiblePlaces 3 (some .int) :: AW) ({ frames := 2, cells := 0, slots := 0, locals := 44 } : Room) (Pz [.ref h0] D (TY kA) [(h0, gC hw G), (hw, wC kA G)]) (pQ (some (.int (possG G)))) 0 0 (fun _ => False) := by
  refine MetZ (by decide +kernel) (Nat.le_of_ble_eq_true rfl) ?_
  intro p e s m below meth c ls hx hb hrt hts hown hml hlk hnm hP hK hD hS hl
  have hl : lv_has ls 3 [(0, .ref h0)] := hl
  refine lv_iconst (v := 0) hx hb dX0_possiblePlaces_0 (by decide) ?_
  refine lv_istore_n (lv' := [(1, .int 0), (0, .ref h0)]) hx hb dX0_possiblePlaces_1 rfl hl (by decide) rfl (fun ls hl => ?_)
  refine lv_iconst (v := 0) hx hb dX0_possiblePlaces_2 (by decide) ?_
  refine lv_istore_n (lv' := [(2, .int 0), (1, .int 0), (0, .ref h0)]) hx hb dX0_possiblePlaces_3 rfl hl (by decide) rfl (fun ls hl => ?_)
  have loop_4 : ∀ (n : Nat) (j : Nat) (x1 : Int32) (x2 : Int32) (hj : j + n = 24) (e2 : x2 = nI j) (hres : ppL G n x2 x1 = possG G), ∀ ls : Array Slot, lv_has ls 3 [(0, .ref h0), (1, .int x1), (2, .int x2)] → W p l e ({ frames := 2, cells := 0, slots := 0, locals := 44 } : Room) s m [.ref h0].toArray below meth c s.heap [] 0 0 (MQ below (pQ (some (.int (possG G)))) [.ref h0].toArray s 0 0 (fun _ => False)) (F0 m 4 ls []) := by
    clear hl
    intro n
    induction n with
    | zero =>
      intro j x1 x2 hj e2 hres  ls hl
      refine lv_iload_n hx hb dX0_possiblePlaces_4 rfl (lv_at hl 2 rfl) ?_
      refine lv_bipush (v := 24) hx hb dX0_possiblePlaces_5 (by decide) ?_
      refine lv_icmp_ge (tgt := 37) hx hb dX0_possiblePlaces_7 (by decide) (fun c_1 => ?_) (fun c_1 => ?_)
      · skip
        replace c_1 := ge_n c_1
        refine lv_iload_n hx hb dX0_possiblePlaces_37 rfl (lv_at hl 1 rfl) ?_
        exact end_pi hx hb hrt hlk (by rw [← hres]; rfl) dX0_possiblePlaces_38
      · exact absurd c_1 (fun h => h (cnt_ge (N := 24) e2 rfl (by omega) (by omega)))
    | succ n ih4 =>
      intro j x1 x2 hj e2 hres  ls hl
      refine lv_iload_n hx hb dX0_possiblePlaces_4 rfl (lv_at hl 2 rfl) ?_
      refine lv_bipush (v := 24) hx hb dX0_possiblePlaces_5 (by decide) ?_
      refine lv_icmp_ge (tgt := 37) hx hb dX0_possiblePlaces_7 (by decide) (fun c_2 => ?_) (fun c_2 => ?_)
      · exact absurd c_2 (cnt_nge (N := 24) e2 rfl (by decide) (by omega))
      · skip
        replace c_2 := nge_l c_2
        refine lv_iload_n hx hb dX0_possiblePlaces_10 rfl (lv_at hl 2 rfl) ?_
        refine lv_aload_n hx hb dX0_possiblePlaces_11 rfl (lv_at hl 0 rfl) ?_
        refine va_get (ci := 0) (v := .int (G 1)) (C := RX0) (T := TX0) (N := 12) hx hb hts inX0 hown hK hP 0 rfl rfl 2 (by decide) (hts _ q_74) (fun _ h9 => h9) rfl dX0_possiblePlaces_12 ?_
        refine cs_p (runS (As := [.int x2, .int (G 1)]) (rest := []) ⟨hx, hb, hml, hown, hts⟩ (m_X0_distance l D kA x2 (G 1) ) q_255 q_256 q_4 q_257 hd_X0_distance ⟨rfl, rfl⟩ ⟨Nat.le_of_ble_eq_true rfl, Nat.le_of_ble_eq_true rfl⟩ hK (ws := []) (hP.sub [] rfl) (hD.sub [] (by decide) rfl) rfl hl.1 rfl (Nat.le_of_ble_eq_true rfl) dX0_possiblePlaces_15 ⟨Nat.zero_le _, Nat.zero_le _⟩) ?_
        refine lv_aload_n hx hb dX0_possiblePlaces_18 rfl (lv_at hl 0 rfl) ?_
        refine va_get (ci := 0) (v := .int (G 4)) (C := RX0) (T := TX0) (N := 12) hx hb hts inX0 hown hK hP 0 rfl rfl 5 (by decide) (hts _ q_80) (fun _ h9 => h9) rfl dX0_possiblePlaces_19 ?_
        refine lv_icmp_gt (tgt := 31) hx hb dX0_possiblePlaces_22 (by decide) (fun c_3 => ?_) (fun c_3 => ?_)
        · skip
          refine lv_iinc (v := x2 + 1) (lv' := [(2, .int (x2 + 1)), (0, .ref h0), (1, .int x1)]) hx hb dX0_possiblePlaces_31 hl (k := 2) rfl (by first | rfl | exact congrArg (_ + ·) (by decide)) (by decide) rfl (fun ls hl => ?_)
          refine lv_goto (tgt := 4) hx hb dX0_possiblePlaces_34 (by decide) ?_
          exact ih4 (j + 1) x1 (x2 + 1) (by omega) (by rw [e2]; exact nI_1 j) (by rw [← hres]; simp only [ppL, c_2, c_3, ↓reduceIte]) ls (lv_sub hl [1, 2, 0] rfl)
        · skip
          refine lv_iload_n hx hb dX0_possiblePlaces_25 rfl (lv_at hl 1 rfl) ?_
          refine lv_iconst (v := 1) hx hb dX0_possiblePlaces_26 (by decide) ?_
          refine lv_iload_n hx hb dX0_possiblePlaces_27 rfl (lv_at hl 2 rfl) ?_
          refine lv_ishl hx hb dX0_possiblePlaces_28 ?_
          refine lv_ior hx hb dX0_possiblePlaces_29 ?_
          refine lv_istore_n (lv' := [(1, .int (x1 ||| (1 <<< (x2 &&& 31)))), (0, .ref h0), (2, .int x2)]) hx hb dX0_possiblePlaces_30 rfl hl (by decide) rfl (fun ls hl => ?_)
          refine lv_iinc (v := x2 + 1) (lv' := [(2, .int (x2 + 1)), (1, .int (x1 ||| (1 <<< (x2 &&& 31)))), (0, .ref h0)]) hx hb dX0_possiblePlaces_31 hl (k := 2) rfl (by first | rfl | exact congrArg (_ + ·) (by decide)) (by decide) rfl (fun ls hl => ?_)
          refine lv_goto (tgt := 4) hx hb dX0_possiblePlaces_34 (by decide) ?_
          exact ih4 (j + 1) (x1 ||| (1 <<< (x2 &&& 31))) (x2 + 1) (by omega) (by rw [e2]; exact nI_1 j) (by rw [← hres]; simp only [ppL, c_2, c_3, ↓reduceIte]) ls (lv_sub hl [2, 1, 0] rfl)
  exact loop_4 24 0 0 0 (by omega) (nI_0.symm) (rfl) ls (lv_sub hl [2, 1, 0] rfl)

theorem hd_X0_property : yX0_property.cls ≠ "java/lang/invoke/MethodHandle" ∧ yX0_property.cls ≠ "java/lang/invoke/VarHandle" ∧ (parseMethodDescriptor yX0_property.desc).map (fun d => d.parameters.length) = some 1 := by decide +kernel
set_option maxRecDepth 100000 in
set_option maxHeartbeats 4000000 in
theorem m_X0_property (l : Launch) (D : va_G) (kA : Nat → Nat) (h0 : Nat) (hw : Nat) (G : Nat → Int32) (p0 : Int32) : Met l yX0_property (Cond.code yX0_property cX0_property 2 (some .int) :: AW) ({ frames := 2, cells := 0, slots := 0, locals := 44 } : Room) (Pz [.ref h0, .int p0] D (TY kA) [(h0, gC hw G), (hw, wC kA G)]) (pQ (some (.int (propG G p0)))) 0 0 (fun _ => False) := by
  refine MetZ (by decide +kernel) (Nat.le_of_ble_eq_true rfl) ?_
  intro p e s m below meth c ls hx hb hrt hts hown hml hlk hnm hP hK hD hS hl
  have hl : lv_has ls 2 [(0, .ref h0), (1, .int p0)] := hl
  refine lv_iload_n hx hb dX0_property_0 rfl (lv_at hl 1 rfl) ?_
  by_cases c_1 : p0 = 0
  · skip
    refine lv_tableIn (off := 59) (tgt := 60) hx hb dX0_property_1 (by rw [c_1]; decide) (by rw [c_1]; decide) (by rw [c_1]; decide +kernel) (by decide) ?_
    refine lv_aload_n hx hb dX0_property_60 rfl (lv_at hl 0 rfl) ?_
    refine va_get (ci := 0) (v := .int (G 0)) (C := RX0) (T := TX0) (N := 12) hx hb hts inX0 hown hK hP 0 rfl rfl 1 (by decide) (hts _ q_71) (fun _ h9 => h9) rfl dX0_property_61 ?_
    exact end_pi hx hb hrt hlk (by rw [propG, if_pos c_1]) dX0_property_64
  by_cases c_2 : p0 = 1
  · skip
    refine lv_tableIn (off := 64) (tgt := 65) hx hb dX0_property_1 (by rw [c_2]; decide) (by rw [c_2]; decide) (by rw [c_2]; decide +kernel) (by decide) ?_
    refine lv_aload_n hx hb dX0_property_65 rfl (lv_at hl 0 rfl) ?_
    refine va_get (ci := 0) (v := .int (G 1)) (C := RX0) (T := TX0) (N := 12) hx hb hts inX0 hown hK hP 0 rfl rfl 2 (by decide) (hts _ q_74) (fun _ h9 => h9) rfl dX0_property_66 ?_
    exact end_pi hx hb hrt hlk (by rw [propG, if_neg c_1, if_pos c_2]) dX0_property_69
  by_cases c_3 : p0 = 2
  · skip
    refine lv_tableIn (off := 69) (tgt := 70) hx hb dX0_property_1 (by rw [c_3]; decide) (by rw [c_3]; decide) (by rw [c_3]; decide +kernel) (by decide) ?_
    refine lv_aload_n hx hb dX0_property_70 rfl (lv_at hl 0 rfl) ?_
    refine va_get (ci := 0) (v := .int (G 2)) (C := RX0) (T := TX0) (N := 12) hx hb hts inX0 hown hK hP 0 rfl rfl 3 (by decide) (hts _ q_77) (fun _ h9 => h9) rfl dX0_property_71 ?_
    exact end_pi hx hb hrt hlk (by rw [propG, if_neg c_1, if_neg c_2, if_pos c_3]) dX0_property_74
  by_cases c_4 : p0 = 3
  · skip
    refine lv_tableIn (off := 74) (tgt := 75) hx hb dX0_property_1 (by rw [c_4]; decide) (by rw [c_4]; decide) (by rw [c_4]; decide +kernel) (by decide) ?_
    refine lv_aload_n hx hb dX0_property_75 rfl (lv_at hl 0 rfl) ?_
    refine va_get (ci := 0) (v := .int (G 3)) (C := RX0) (T := TX0) (N := 12) hx hb hts inX0 hown hK hP 0 rfl rfl 4 (by decide) (hts _ q_79) (fun _ h9 => h9) rfl dX0_property_76 ?_
    exact end_pi hx hb hrt hlk (by rw [propG, if_neg c_1, if_neg c_2, if_neg c_3, if_pos c_4]) dX0_property_79
  by_cases c_5 : p0 = 4
  · skip
    refine lv_tableIn (off := 79) (tgt := 80) hx hb dX0_property_1 (by rw [c_5]; decide) (by rw [c_5]; decide) (by rw [c_5]; decide +kernel) (by decide) ?_
    refine lv_aload_n hx hb dX0_property_80 rfl (lv_at hl 0 rfl) ?_
    refine va_get (ci := 0) (v := .int (G 4)) (C := RX0) (T := TX0) (N := 12) hx hb hts inX0 hown hK hP 0 rfl rfl 5 (by decide) (hts _ q_80) (fun _ h9 => h9) rfl dX0_property_81 ?_
    exact end_pi hx hb hrt hlk (by rw [propG, if_neg c_1, if_neg c_2, if_neg c_3, if_neg c_4, if_pos c_5]) dX0_property_84
  by_cases c_6 : p0 = 5
  · skip
    refine lv_tableIn (off := 84) (tgt := 85) hx hb dX0_property_1 (by rw [c_6]; decide) (by rw [c_6]; decide) (by rw [c_6]; decide +kernel) (by decide) ?_
    refine lv_aload_n hx hb dX0_property_85 rfl (lv_at hl 0 rfl) ?_
    refine va_get (ci := 0) (v := .int (G 5)) (C := RX0) (T := TX0) (N := 12) hx hb hts inX0 hown hK hP 0 rfl rfl 6 (by decide) (hts _ q_81) (fun _ h9 => h9) rfl dX0_property_86 ?_
    exact end_pi hx hb hrt hlk (by rw [propG, if_neg c_1, if_neg c_2, if_neg c_3, if_neg c_4, if_neg c_5, if_pos c_6]) dX0_property_89
  by_cases c_7 : p0 = 6
  · skip
    refine lv_tableIn (off := 89) (tgt := 90) hx hb dX0_property_1 (by rw [c_7]; decide) (by rw [c_7]; decide) (by rw [c_7]; decide +kernel) (by decide) ?_
    refine lv_aload_n hx hb dX0_property_90 rfl (lv_at hl 0 rfl) ?_
    refine va_get (ci := 0) (v := .int (G 6)) (C := RX0) (T := TX0) (N := 12) hx hb hts inX0 hown hK hP 0 rfl rfl 7 (by decide) (hts _ q_83) (fun _ h9 => h9) rfl dX0_property_91 ?_
    exact end_pi hx hb hrt hlk (by rw [propG, if_neg c_1, if_neg c_2, if_neg c_3, if_neg c_4, if_neg c_5, if_neg c_6, if_pos c_7]) dX0_property_94
  by_cases c_8 : p0 = 7
  · skip
    refine lv_tableIn (off := 94) (tgt := 95) hx hb dX0_property_1 (by rw [c_8]; decide) (by rw [c_8]; decide) (by rw [c_8]; decide +kernel) (by decide) ?_
    refine lv_aload_n hx hb dX0_property_95 rfl (lv_at hl 0 rfl) ?_
    refine va_get (ci := 0) (v := .int (G 7)) (C := RX0) (T := TX0) (N := 12) hx hb hts inX0 hown hK hP 0 rfl rfl 8 (by decide) (hts _ q_85) (fun _ h9 => h9) rfl dX0_property_96 ?_
    exact end_pi hx hb hrt hlk (by rw [propG, if_neg c_1, if_neg c_2, if_neg c_3, if_neg c_4, if_neg c_5, if_neg c_6, if_neg c_7, if_pos c_8]) dX0_property_99
  by_cases c_9 : p0 = 8
  · skip
    refine lv_tableIn (off := 99) (tgt := 100) hx hb dX0_property_1 (by rw [c_9]; decide) (by rw [c_9]; decide) (by rw [c_9]; decide +kernel) (by decide) ?_
    refine lv_aload_n hx hb dX0_property_100 rfl (lv_at hl 0 rfl) ?_
    refine va_get (ci := 0) (v := .int (G 8)) (C := RX0) (T := TX0) (N := 12) hx hb hts inX0 hown hK hP 0 rfl rfl 9 (by decide) (hts _ q_86) (fun _ h9 => h9) rfl dX0_property_101 ?_
    exact end_pi hx hb hrt hlk (by rw [propG, if_neg c_1, if_neg c_2, if_neg c_3, if_neg c_4, if_neg c_5, if_neg c_6, if_neg c_7, if_neg c_8, if_pos c_9]) dX0_property_104
  by_cases c_10 : p0 = 9
  · skip
    refine lv_tableIn (off := 104) (tgt := 105) hx hb dX0_property_1 (by rw [c_10]; decide) (by rw [c_10]; decide) (by rw [c_10]; decide +kernel) (by decide) ?_
    refine lv_aload_n hx hb dX0_property_105 rfl (lv_at hl 0 rfl) ?_
    refine va_get (ci := 0) (v := .int (G 0)) (C := RX0) (T := TX0) (N := 12) hx hb hts inX0 hown hK hP 0 rfl rfl 1 (by decide) (hts _ q_71) (fun _ h9 => h9) rfl dX0_property_106 ?_
    refine lv_aload_n hx hb dX0_property_109 rfl (lv_at hl 0 rfl) ?_
    refine va_get (ci := 0) (v := .int (G 1)) (C := RX0) (T := TX0) (N := 12) hx hb hts inX0 hown hK hP 0 rfl rfl 2 (by decide) (hts _ q_74) (fun _ h9 => h9) rfl dX0_property_110 ?_
    refine cs_p (runS (As := [.int (G 0), .int (G 1)]) (rest := []) ⟨hx, hb, hml, hown, hts⟩ (m_X0_distance l D kA (G 0) (G 1) ) q_255 q_256 q_4 q_257 hd_X0_distance ⟨rfl, rfl⟩ ⟨Nat.le_of_ble_eq_true rfl, Nat.le_of_ble_eq_true rfl⟩ hK (ws := []) (hP.sub [] rfl) (hD.sub [] (by decide) rfl) rfl hl.1 rfl (Nat.le_of_ble_eq_true rfl) dX0_property_113 ⟨Nat.zero_le _, Nat.zero_le _⟩) ?_
    exact end_pi hx hb hrt hlk (by rw [propG, if_neg c_1, if_neg c_2, if_neg c_3, if_neg c_4, if_neg c_5, if_neg c_6, if_neg c_7, if_neg c_8, if_neg c_9, if_pos c_10]) dX0_property_116
  by_cases c_11 : p0 = 10
  · skip
    refine lv_tableIn (off := 116) (tgt := 117) hx hb dX0_property_1 (by rw [c_11]; decide) (by rw [c_11]; decide) (by rw [c_11]; decide +kernel) (by decide) ?_
    refine lv_aload_n hx hb dX0_property_117 rfl (lv_at hl 0 rfl) ?_
    refine va_get (ci := 0) (v := .int (G 9)) (C := RX0) (T := TX0) (N := 12) hx hb hts inX0 hown hK hP 0 rfl rfl 10 (by decide) (hts _ q_87) (fun _ h9 => h9) rfl dX0_property_118 ?_
    exact end_pi hx hb hrt hlk (by rw [propG, if_neg c_1, if_neg c_2, if_neg c_3, if_neg c_4, if_neg c_5, if_neg c_6, if_neg c_7, if_neg c_8, if_neg c_9, if_neg c_10, if_pos c_11]) dX0_property_121
  refine lv_tableOut (tgt := 122) hx hb dX0_property_1 (sw_out 0 10 (by intro k h1 h2; rcases (show k = 0 ∨ k = 1 ∨ k = 2 ∨ k = 3 ∨ k = 4 ∨ k = 5 ∨ k = 6 ∨ k = 7 ∨ k = 8 ∨ k = 9 ∨ k = 10 by omega) with rfl | rfl | rfl | rfl | rfl | rfl | rfl | rfl | rfl | rfl | rfl <;> first | exact lv_neT c_1 (by decide) | exact lv_neT c_2 (by decide) | exact lv_neT c_3 (by decide) | exact lv_neT c_4 (by decide) | exact lv_neT c_5 (by decide) | exact lv_neT c_6 (by decide) | exact lv_neT c_7 (by decide) | exact lv_neT c_8 (by decide) | exact lv_neT c_9 (by decide) | exact lv_neT c_10 (by decide) | exact lv_neT c_11 (by decide))) (by decide) ?_
  refine lv_aload_n hx hb dX0_property_122 rfl (lv_at hl 0 rfl) ?_
  refine va_get (ci := 0) (v := .int (G 10)) (C := RX0) (T := TX0) (N := 12) hx hb hts inX0 hown hK hP 0 rfl rfl 11 (by decide) (hts _ q_88) (fun _ h9 => h9) rfl dX0_property_123 ?_
  exact end_pi hx hb hrt hlk (by rw [propG, if_neg c_1, if_neg c_2, if_neg c_3, if_neg c_4, if_neg c_5, if_neg c_6, if_neg c_7, if_neg c_8, if_neg c_9, if_neg c_10, if_neg c_11]) dX0_property_126

theorem hd_X0_copyFrom : yX0_copyFrom.cls ≠ "java/lang/invoke/MethodHandle" ∧ yX0_copyFrom.cls ≠ "java/lang/invoke/VarHandle" ∧ (parseMethodDescriptor yX0_copyFrom.desc).map (fun d => d.parameters.length) = some 1 := by decide +kernel
set_option maxRecDepth 100000 in
set_option maxHeartbeats 4000000 in
theorem m_X0_copyFrom (l : Launch) (D : va_G) (kA : Nat → Nat) (h0 : Nat) (hw : Nat) (G : Nat → Int32) (h1 : Nat) (hx1 : Nat) (G1 : Nat → Int32) : Met l yX0_copyFrom (Cond.code yX0_copyFrom cX0_copyFrom 2 none :: AW) ({ frames := 1, cells := 0, slots := 0, locals := 60 } : Room) (Pz [.ref h0, .ref h1] D (TY kA) [(h0, gC hw G), (hw, wC kA G), (h1, gC hx1 G1), (hx1, wC kA G1)]) (fQ none D [(h0, gC hw G), (hw, wC kA G), (h1, gC hx1 G1), (hx1, wC kA G1)] [(h0, gC hw G1), (hw, wC kA G1), (h1, gC hx1 G1), (hx1, wC kA G1)]) 0 0 (Aw [(h0, gC hw G), (hw, wC kA G), (h1, gC hx1 G1), (hx1, wC kA G1)]) := by
  refine MetZ (by decide +kernel) (Nat.le_of_ble_eq_true rfl) ?_
  intro p e s m below meth c ls hx hb hrt hts hown hml hlk hnm hP hK hD hS hl
  have hl : lv_has ls 2 [(0, .ref h0), (1, .ref h1)] := hl
  refine lv_aload_n hx hb dX0_copyFrom_0 rfl (lv_at hl 1 rfl) ?_
  refine va_get (ci := 0) (v := .ref hx1) (C := RX0) (T := TX0) (N := 12) hx hb hts inX0 hown hK hP 2 rfl rfl 0 (by decide) (hts _ q_70) (fun _ h9 => h9) rfl dX0_copyFrom_1 ?_
  refine lv_iconst (v := 0) hx hb dX0_copyFrom_4 (by decide) ?_
  refine lv_aload_n hx hb dX0_copyFrom_5 rfl (lv_at hl 0 rfl) ?_
  refine va_get (ci := 0) (v := .ref hw) (C := RX0) (T := TX0) (N := 12) hx hb hts inX0 hown hK hP 0 rfl rfl 0 (by decide) (hts _ q_70) (fun _ h9 => h9) rfl dX0_copyFrom_6 ?_
  refine lv_iconst (v := 0) hx hb dX0_copyFrom_9 (by decide) ?_
  refine lv_aload_n hx hb dX0_copyFrom_10 rfl (lv_at hl 1 rfl) ?_
  refine va_get (ci := 0) (v := .ref hx1) (C := RX0) (T := TX0) (N := 12) hx hb hts inX0 hown hK hP 2 rfl rfl 0 (by decide) (hts _ q_70) (fun _ h9 => h9) rfl dX0_copyFrom_11 ?_
  refine va_alen (v := 24) hx hb hK hP 3 0 rfl rfl rfl dX0_copyFrom_14 ?_
  refine lv_aload_n hx hb dX0_copyFrom_15 rfl (lv_at hl 0 rfl) ?_
  refine va_get (ci := 0) (v := .ref hw) (C := RX0) (T := TX0) (N := 12) hx hb hts inX0 hown hK hP 0 rfl rfl 0 (by decide) (hts _ q_70) (fun _ h9 => h9) rfl dX0_copyFrom_16 ?_
  refine va_alen (v := 24) hx hb hK hP 1 0 rfl rfl rfl dX0_copyFrom_19 ?_
  refine va_mmin hx hb (hml.trans hl.1.symm) hown (hts _ q_261) (hts _ q_262) (hts _ q_13) (hts _ q_263) (Nat.le_of_ble_eq_true rfl) (Nat.le_of_ble_eq_true rfl) (Nat.zero_le _) (Nat.zero_le _) dX0_copyFrom_20 ?_
  rw [show (if (24 : Int32) < 24 then (24 : Int32) else 24) = 24 from by decide]
  refine va_copyi (f := fun t => G1 (t + 11)) (g := fun t => G (t + 11)) hx hb (hml.trans hl.1.symm) hown (hts _ q_343) (hts _ q_345) (hts _ q_344) (hts _ q_14) hK hP hD hS 3 1 0 0 rfl rfl rfl rfl rfl (by decide) (by decide) (by decide) (by decide) (by decide) (fun _ _ => rfl) (Nat.le_of_ble_eq_true rfl) (Nat.le_of_ble_eq_true rfl) dX0_copyFrom_23 (fun H locs hP hD hS => ?_)
  have hP : va_P D vwCl [(h0, gC hw G), (hw, .inl (kA 0, 24, .inl (va_cpy (fun t => G1 (t + 11)) (fun t => G (t + 11)) (0 : Int32).toNatClampNeg (0 : Int32).toNatClampNeg (24 : Int32).toNatClampNeg))), (h1, gC hx1 G1), (hx1, wC kA G1)] H := hP
  have hD : va_D (Aw [(h0, gC hw G), (hw, wC kA G), (h1, gC hx1 G1), (hx1, wC kA G1)]) [(h0, gC hw G), (hw, .inl (kA 0, 24, .inl (va_cpy (fun t => G1 (t + 11)) (fun t => G (t + 11)) (0 : Int32).toNatClampNeg (0 : Int32).toNatClampNeg (24 : Int32).toNatClampNeg))), (h1, gC hx1 G1), (hx1, wC kA G1)] := hD
  refine lv_aload_n hx hb dX0_copyFrom_26 rfl (lv_at hl 0 rfl) ?_
  refine lv_aload_n hx hb dX0_copyFrom_27 rfl (lv_at hl 1 rfl) ?_
  refine va_get (ci := 0) (v := .int (G1 0)) (C := RX0) (T := TX0) (N := 12) hx hb hts inX0 hown hK hP 2 rfl rfl 1 (by decide) (hts _ q_71) (fun _ h9 => h9) rfl dX0_copyFrom_28 ?_
  refine va_put (ci := 0) (v := .int (G1 0)) (ty := tyX0 1) (C := RX0) (T := TX0) (N := 12) hx hb hts inX0 tyX0 tyX0_ok nmX0 hown hK hP hD hS 0 rfl rfl 1 (by decide) (hts _ q_71) (fun _ h9 => h9) rfl (tyX0_ok 1 (by decide)) rfl rfl (Nat.le_of_ble_eq_true rfl) dX0_copyFrom_31 (fun H locs hP hD hS => ?_)
  have hP : va_P D vwCl [(h0, .inr (0, [.ref hw, .int (G1 0), .int (G 1), .int (G 2), .int (G 3), .int (G 4), .int (G 5), .int (G 6), .int (G 7), .int (G 8), .int (G 9), .int (G 10)])), (hw, .inl (kA 0, 24, .inl (va_cpy (fun t => G1 (t + 11)) (fun t => G (t + 11)) (0 : Int32).toNatClampNeg (0 : Int32).toNatClampNeg (24 : Int32).toNatClampNeg))), (h1, gC hx1 G1), (hx1, wC kA G1)] H := hP
  have hD : va_D (Aw [(h0, gC hw G), (hw, wC kA G), (h1, gC hx1 G1), (hx1, wC kA G1)]) [(h0, .inr (0, [.ref hw, .int (G1 0), .int (G 1), .int (G 2), .int (G 3), .int (G 4), .int (G 5), .int (G 6), .int (G 7), .int (G 8), .int (G 9), .int (G 10)])), (hw, .inl (kA 0, 24, .inl (va_cpy (fun t => G1 (t + 11)) (fun t => G (t + 11)) (0 : Int32).toNatClampNeg (0 : Int32).toNatClampNeg (24 : Int32).toNatClampNeg))), (h1, gC hx1 G1), (hx1, wC kA G1)] := hD
  refine lv_aload_n hx hb dX0_copyFrom_34 rfl (lv_at hl 0 rfl) ?_
  refine lv_aload_n hx hb dX0_copyFrom_35 rfl (lv_at hl 1 rfl) ?_
  refine va_get (ci := 0) (v := .int (G1 1)) (C := RX0) (T := TX0) (N := 12) hx hb hts inX0 hown hK hP 2 rfl rfl 2 (by decide) (hts _ q_74) (fun _ h9 => h9) rfl dX0_copyFrom_36 ?_
  refine va_put (ci := 0) (v := .int (G1 1)) (ty := tyX0 2) (C := RX0) (T := TX0) (N := 12) hx hb hts inX0 tyX0 tyX0_ok nmX0 hown hK hP hD hS 0 rfl rfl 2 (by decide) (hts _ q_74) (fun _ h9 => h9) rfl (tyX0_ok 2 (by decide)) rfl rfl (Nat.le_of_ble_eq_true rfl) dX0_copyFrom_39 (fun H locs hP hD hS => ?_)
  have hP : va_P D vwCl [(h0, .inr (0, [.ref hw, .int (G1 0), .int (G1 1), .int (G 2), .int (G 3), .int (G 4), .int (G 5), .int (G 6), .int (G 7), .int (G 8), .int (G 9), .int (G 10)])), (hw, .inl (kA 0, 24, .inl (va_cpy (fun t => G1 (t + 11)) (fun t => G (t + 11)) (0 : Int32).toNatClampNeg (0 : Int32).toNatClampNeg (24 : Int32).toNatClampNeg))), (h1, gC hx1 G1), (hx1, wC kA G1)] H := hP
  have hD : va_D (Aw [(h0, gC hw G), (hw, wC kA G), (h1, gC hx1 G1), (hx1, wC kA G1)]) [(h0, .inr (0, [.ref hw, .int (G1 0), .int (G1 1), .int (G 2), .int (G 3), .int (G 4), .int (G 5), .int (G 6), .int (G 7), .int (G 8), .int (G 9), .int (G 10)])), (hw, .inl (kA 0, 24, .inl (va_cpy (fun t => G1 (t + 11)) (fun t => G (t + 11)) (0 : Int32).toNatClampNeg (0 : Int32).toNatClampNeg (24 : Int32).toNatClampNeg))), (h1, gC hx1 G1), (hx1, wC kA G1)] := hD
  refine lv_aload_n hx hb dX0_copyFrom_42 rfl (lv_at hl 0 rfl) ?_
  refine lv_aload_n hx hb dX0_copyFrom_43 rfl (lv_at hl 1 rfl) ?_
  refine va_get (ci := 0) (v := .int (G1 2)) (C := RX0) (T := TX0) (N := 12) hx hb hts inX0 hown hK hP 2 rfl rfl 3 (by decide) (hts _ q_77) (fun _ h9 => h9) rfl dX0_copyFrom_44 ?_
  refine va_put (ci := 0) (v := .int (G1 2)) (ty := tyX0 3) (C := RX0) (T := TX0) (N := 12) hx hb hts inX0 tyX0 tyX0_ok nmX0 hown hK hP hD hS 0 rfl rfl 3 (by decide) (hts _ q_77) (fun _ h9 => h9) rfl (tyX0_ok 3 (by decide)) rfl rfl (Nat.le_of_ble_eq_true rfl) dX0_copyFrom_47 (fun H locs hP hD hS => ?_)
  have hP : va_P D vwCl [(h0, .inr (0, [.ref hw, .int (G1 0), .int (G1 1), .int (G1 2), .int (G 3), .int (G 4), .int (G 5), .int (G 6), .int (G 7), .int (G 8), .int (G 9), .int (G 10)])), (hw, .inl (kA 0, 24, .inl (va_cpy (fun t => G1 (t + 11)) (fun t => G (t + 11)) (0 : Int32).toNatClampNeg (0 : Int32).toNatClampNeg (24 : Int32).toNatClampNeg))), (h1, gC hx1 G1), (hx1, wC kA G1)] H := hP
  have hD : va_D (Aw [(h0, gC hw G), (hw, wC kA G), (h1, gC hx1 G1), (hx1, wC kA G1)]) [(h0, .inr (0, [.ref hw, .int (G1 0), .int (G1 1), .int (G1 2), .int (G 3), .int (G 4), .int (G 5), .int (G 6), .int (G 7), .int (G 8), .int (G 9), .int (G 10)])), (hw, .inl (kA 0, 24, .inl (va_cpy (fun t => G1 (t + 11)) (fun t => G (t + 11)) (0 : Int32).toNatClampNeg (0 : Int32).toNatClampNeg (24 : Int32).toNatClampNeg))), (h1, gC hx1 G1), (hx1, wC kA G1)] := hD
  refine lv_aload_n hx hb dX0_copyFrom_50 rfl (lv_at hl 0 rfl) ?_
  refine lv_aload_n hx hb dX0_copyFrom_51 rfl (lv_at hl 1 rfl) ?_
  refine va_get (ci := 0) (v := .int (G1 3)) (C := RX0) (T := TX0) (N := 12) hx hb hts inX0 hown hK hP 2 rfl rfl 4 (by decide) (hts _ q_79) (fun _ h9 => h9) rfl dX0_copyFrom_52 ?_
  refine va_put (ci := 0) (v := .int (G1 3)) (ty := tyX0 4) (C := RX0) (T := TX0) (N := 12) hx hb hts inX0 tyX0 tyX0_ok nmX0 hown hK hP hD hS 0 rfl rfl 4 (by decide) (hts _ q_79) (fun _ h9 => h9) rfl (tyX0_ok 4 (by decide)) rfl rfl (Nat.le_of_ble_eq_true rfl) dX0_copyFrom_55 (fun H locs hP hD hS => ?_)
  have hP : va_P D vwCl [(h0, .inr (0, [.ref hw, .int (G1 0), .int (G1 1), .int (G1 2), .int (G1 3), .int (G 4), .int (G 5), .int (G 6), .int (G 7), .int (G 8), .int (G 9), .int (G 10)])), (hw, .inl (kA 0, 24, .inl (va_cpy (fun t => G1 (t + 11)) (fun t => G (t + 11)) (0 : Int32).toNatClampNeg (0 : Int32).toNatClampNeg (24 : Int32).toNatClampNeg))), (h1, gC hx1 G1), (hx1, wC kA G1)] H := hP
  have hD : va_D (Aw [(h0, gC hw G), (hw, wC kA G), (h1, gC hx1 G1), (hx1, wC kA G1)]) [(h0, .inr (0, [.ref hw, .int (G1 0), .int (G1 1), .int (G1 2), .int (G1 3), .int (G 4), .int (G 5), .int (G 6), .int (G 7), .int (G 8), .int (G 9), .int (G 10)])), (hw, .inl (kA 0, 24, .inl (va_cpy (fun t => G1 (t + 11)) (fun t => G (t + 11)) (0 : Int32).toNatClampNeg (0 : Int32).toNatClampNeg (24 : Int32).toNatClampNeg))), (h1, gC hx1 G1), (hx1, wC kA G1)] := hD
  refine lv_aload_n hx hb dX0_copyFrom_58 rfl (lv_at hl 0 rfl) ?_
  refine lv_aload_n hx hb dX0_copyFrom_59 rfl (lv_at hl 1 rfl) ?_
  refine va_get (ci := 0) (v := .int (G1 4)) (C := RX0) (T := TX0) (N := 12) hx hb hts inX0 hown hK hP 2 rfl rfl 5 (by decide) (hts _ q_80) (fun _ h9 => h9) rfl dX0_copyFrom_60 ?_
  refine va_put (ci := 0) (v := .int (G1 4)) (ty := tyX0 5) (C := RX0) (T := TX0) (N := 12) hx hb hts inX0 tyX0 tyX0_ok nmX0 hown hK hP hD hS 0 rfl rfl 5 (by decide) (hts _ q_80) (fun _ h9 => h9) rfl (tyX0_ok 5 (by decide)) rfl rfl (Nat.le_of_ble_eq_true rfl) dX0_copyFrom_63 (fun H locs hP hD hS => ?_)
  have hP : va_P D vwCl [(h0, .inr (0, [.ref hw, .int (G1 0), .int (G1 1), .int (G1 2), .int (G1 3), .int (G1 4), .int (G 5), .int (G 6), .int (G 7), .int (G 8), .int (G 9), .int (G 10)])), (hw, .inl (kA 0, 24, .inl (va_cpy (fun t => G1 (t + 11)) (fun t => G (t + 11)) (0 : Int32).toNatClampNeg (0 : Int32).toNatClampNeg (24 : Int32).toNatClampNeg))), (h1, gC hx1 G1), (hx1, wC kA G1)] H := hP
  have hD : va_D (Aw [(h0, gC hw G), (hw, wC kA G), (h1, gC hx1 G1), (hx1, wC kA G1)]) [(h0, .inr (0, [.ref hw, .int (G1 0), .int (G1 1), .int (G1 2), .int (G1 3), .int (G1 4), .int (G 5), .int (G 6), .int (G 7), .int (G 8), .int (G 9), .int (G 10)])), (hw, .inl (kA 0, 24, .inl (va_cpy (fun t => G1 (t + 11)) (fun t => G (t + 11)) (0 : Int32).toNatClampNeg (0 : Int32).toNatClampNeg (24 : Int32).toNatClampNeg))), (h1, gC hx1 G1), (hx1, wC kA G1)] := hD
  refine lv_aload_n hx hb dX0_copyFrom_66 rfl (lv_at hl 0 rfl) ?_
  refine lv_aload_n hx hb dX0_copyFrom_67 rfl (lv_at hl 1 rfl) ?_
  refine va_get (ci := 0) (v := .int (G1 5)) (C := RX0) (T := TX0) (N := 12) hx hb hts inX0 hown hK hP 2 rfl rfl 6 (by decide) (hts _ q_81) (fun _ h9 => h9) rfl dX0_copyFrom_68 ?_
  refine va_put (ci := 0) (v := .int (G1 5)) (ty := tyX0 6) (C := RX0) (T := TX0) (N := 12) hx hb hts inX0 tyX0 tyX0_ok nmX0 hown hK hP hD hS 0 rfl rfl 6 (by decide) (hts _ q_81) (fun _ h9 => h9) rfl (tyX0_ok 6 (by decide)) rfl rfl (Nat.le_of_ble_eq_true rfl) dX0_copyFrom_71 (fun H locs hP hD hS => ?_)
  have hP : va_P D vwCl [(h0, .inr (0, [.ref hw, .int (G1 0), .int (G1 1), .int (G1 2), .int (G1 3), .int (G1 4), .int (G1 5), .int (G 6), .int (G 7), .int (G 8), .int (G 9), .int (G 10)])), (hw, .inl (kA 0, 24, .inl (va_cpy (fun t => G1 (t + 11)) (fun t => G (t + 11)) (0 : Int32).toNatClampNeg (0 : Int32).toNatClampNeg (24 : Int32).toNatClampNeg))), (h1, gC hx1 G1), (hx1, wC kA G1)] H := hP
  have hD : va_D (Aw [(h0, gC hw G), (hw, wC kA G), (h1, gC hx1 G1), (hx1, wC kA G1)]) [(h0, .inr (0, [.ref hw, .int (G1 0), .int (G1 1), .int (G1 2), .int (G1 3), .int (G1 4), .int (G1 5), .int (G 6), .int (G 7), .int (G 8), .int (G 9), .int (G 10)])), (hw, .inl (kA 0, 24, .inl (va_cpy (fun t => G1 (t + 11)) (fun t => G (t + 11)) (0 : Int32).toNatClampNeg (0 : Int32).toNatClampNeg (24 : Int32).toNatClampNeg))), (h1, gC hx1 G1), (hx1, wC kA G1)] := hD
  refine lv_aload_n hx hb dX0_copyFrom_74 rfl (lv_at hl 0 rfl) ?_
  refine lv_aload_n hx hb dX0_copyFrom_75 rfl (lv_at hl 1 rfl) ?_
  refine va_get (ci := 0) (v := .int (G1 6)) (C := RX0) (T := TX0) (N := 12) hx hb hts inX0 hown hK hP 2 rfl rfl 7 (by decide) (hts _ q_83) (fun _ h9 => h9) rfl dX0_copyFrom_76 ?_
  refine va_put (ci := 0) (v := .int (G1 6)) (ty := tyX0 7) (C := RX0) (T := TX0) (N := 12) hx hb hts inX0 tyX0 tyX0_ok nmX0 hown hK hP hD hS 0 rfl rfl 7 (by decide) (hts _ q_83) (fun _ h9 => h9) rfl (tyX0_ok 7 (by decide)) rfl rfl (Nat.le_of_ble_eq_true rfl) dX0_copyFrom_79 (fun H locs hP hD hS => ?_)
  have hP : va_P D vwCl [(h0, .inr (0, [.ref hw, .int (G1 0), .int (G1 1), .int (G1 2), .int (G1 3), .int (G1 4), .int (G1 5), .int (G1 6), .int (G 7), .int (G 8), .int (G 9), .int (G 10)])), (hw, .inl (kA 0, 24, .inl (va_cpy (fun t => G1 (t + 11)) (fun t => G (t + 11)) (0 : Int32).toNatClampNeg (0 : Int32).toNatClampNeg (24 : Int32).toNatClampNeg))), (h1, gC hx1 G1), (hx1, wC kA G1)] H := hP
  have hD : va_D (Aw [(h0, gC hw G), (hw, wC kA G), (h1, gC hx1 G1), (hx1, wC kA G1)]) [(h0, .inr (0, [.ref hw, .int (G1 0), .int (G1 1), .int (G1 2), .int (G1 3), .int (G1 4), .int (G1 5), .int (G1 6), .int (G 7), .int (G 8), .int (G 9), .int (G 10)])), (hw, .inl (kA 0, 24, .inl (va_cpy (fun t => G1 (t + 11)) (fun t => G (t + 11)) (0 : Int32).toNatClampNeg (0 : Int32).toNatClampNeg (24 : Int32).toNatClampNeg))), (h1, gC hx1 G1), (hx1, wC kA G1)] := hD
  refine lv_aload_n hx hb dX0_copyFrom_82 rfl (lv_at hl 0 rfl) ?_
  refine lv_aload_n hx hb dX0_copyFrom_83 rfl (lv_at hl 1 rfl) ?_
  refine va_get (ci := 0) (v := .int (G1 7)) (C := RX0) (T := TX0) (N := 12) hx hb hts inX0 hown hK hP 2 rfl rfl 8 (by decide) (hts _ q_85) (fun _ h9 => h9) rfl dX0_copyFrom_84 ?_
  refine va_put (ci := 0) (v := .int (G1 7)) (ty := tyX0 8) (C := RX0) (T := TX0) (N := 12) hx hb hts inX0 tyX0 tyX0_ok nmX0 hown hK hP hD hS 0 rfl rfl 8 (by decide) (hts _ q_85) (fun _ h9 => h9) rfl (tyX0_ok 8 (by decide)) rfl rfl (Nat.le_of_ble_eq_true rfl) dX0_copyFrom_87 (fun H locs hP hD hS => ?_)
  have hP : va_P D vwCl [(h0, .inr (0, [.ref hw, .int (G1 0), .int (G1 1), .int (G1 2), .int (G1 3), .int (G1 4), .int (G1 5), .int (G1 6), .int (G1 7), .int (G 8), .int (G 9), .int (G 10)])), (hw, .inl (kA 0, 24, .inl (va_cpy (fun t => G1 (t + 11)) (fun t => G (t + 11)) (0 : Int32).toNatClampNeg (0 : Int32).toNatClampNeg (24 : Int32).toNatClampNeg))), (h1, gC hx1 G1), (hx1, wC kA G1)] H := hP
  have hD : va_D (Aw [(h0, gC hw G), (hw, wC kA G), (h1, gC hx1 G1), (hx1, wC kA G1)]) [(h0, .inr (0, [.ref hw, .int (G1 0), .int (G1 1), .int (G1 2), .int (G1 3), .int (G1 4), .int (G1 5), .int (G1 6), .int (G1 7), .int (G 8), .int (G 9), .int (G 10)])), (hw, .inl (kA 0, 24, .inl (va_cpy (fun t => G1 (t + 11)) (fun t => G (t + 11)) (0 : Int32).toNatClampNeg (0 : Int32).toNatClampNeg (24 : Int32).toNatClampNeg))), (h1, gC hx1 G1), (hx1, wC kA G1)] := hD
  refine lv_aload_n hx hb dX0_copyFrom_90 rfl (lv_at hl 0 rfl) ?_
  refine lv_aload_n hx hb dX0_copyFrom_91 rfl (lv_at hl 1 rfl) ?_
  refine va_get (ci := 0) (v := .int (G1 8)) (C := RX0) (T := TX0) (N := 12) hx hb hts inX0 hown hK hP 2 rfl rfl 9 (by decide) (hts _ q_86) (fun _ h9 => h9) rfl dX0_copyFrom_92 ?_
  refine va_put (ci := 0) (v := .int (G1 8)) (ty := tyX0 9) (C := RX0) (T := TX0) (N := 12) hx hb hts inX0 tyX0 tyX0_ok nmX0 hown hK hP hD hS 0 rfl rfl 9 (by decide) (hts _ q_86) (fun _ h9 => h9) rfl (tyX0_ok 9 (by decide)) rfl rfl (Nat.le_of_ble_eq_true rfl) dX0_copyFrom_95 (fun H locs hP hD hS => ?_)
  have hP : va_P D vwCl [(h0, .inr (0, [.ref hw, .int (G1 0), .int (G1 1), .int (G1 2), .int (G1 3), .int (G1 4), .int (G1 5), .int (G1 6), .int (G1 7), .int (G1 8), .int (G 9), .int (G 10)])), (hw, .inl (kA 0, 24, .inl (va_cpy (fun t => G1 (t + 11)) (fun t => G (t + 11)) (0 : Int32).toNatClampNeg (0 : Int32).toNatClampNeg (24 : Int32).toNatClampNeg))), (h1, gC hx1 G1), (hx1, wC kA G1)] H := hP
  have hD : va_D (Aw [(h0, gC hw G), (hw, wC kA G), (h1, gC hx1 G1), (hx1, wC kA G1)]) [(h0, .inr (0, [.ref hw, .int (G1 0), .int (G1 1), .int (G1 2), .int (G1 3), .int (G1 4), .int (G1 5), .int (G1 6), .int (G1 7), .int (G1 8), .int (G 9), .int (G 10)])), (hw, .inl (kA 0, 24, .inl (va_cpy (fun t => G1 (t + 11)) (fun t => G (t + 11)) (0 : Int32).toNatClampNeg (0 : Int32).toNatClampNeg (24 : Int32).toNatClampNeg))), (h1, gC hx1 G1), (hx1, wC kA G1)] := hD
  refine lv_aload_n hx hb dX0_copyFrom_98 rfl (lv_at hl 0 rfl) ?_
  refine lv_aload_n hx hb dX0_copyFrom_99 rfl (lv_at hl 1 rfl) ?_
  refine va_get (ci := 0) (v := .int (G1 9)) (C := RX0) (T := TX0) (N := 12) hx hb hts inX0 hown hK hP 2 rfl rfl 10 (by decide) (hts _ q_87) (fun _ h9 => h9) rfl dX0_copyFrom_100 ?_
  refine va_put (ci := 0) (v := .int (G1 9)) (ty := tyX0 10) (C := RX0) (T := TX0) (N := 12) hx hb hts inX0 tyX0 tyX0_ok nmX0 hown hK hP hD hS 0 rfl rfl 10 (by decide) (hts _ q_87) (fun _ h9 => h9) rfl (tyX0_ok 10 (by decide)) rfl rfl (Nat.le_of_ble_eq_true rfl) dX0_copyFrom_103 (fun H locs hP hD hS => ?_)
  have hP : va_P D vwCl [(h0, .inr (0, [.ref hw, .int (G1 0), .int (G1 1), .int (G1 2), .int (G1 3), .int (G1 4), .int (G1 5), .int (G1 6), .int (G1 7), .int (G1 8), .int (G1 9), .int (G 10)])), (hw, .inl (kA 0, 24, .inl (va_cpy (fun t => G1 (t + 11)) (fun t => G (t + 11)) (0 : Int32).toNatClampNeg (0 : Int32).toNatClampNeg (24 : Int32).toNatClampNeg))), (h1, gC hx1 G1), (hx1, wC kA G1)] H := hP
  have hD : va_D (Aw [(h0, gC hw G), (hw, wC kA G), (h1, gC hx1 G1), (hx1, wC kA G1)]) [(h0, .inr (0, [.ref hw, .int (G1 0), .int (G1 1), .int (G1 2), .int (G1 3), .int (G1 4), .int (G1 5), .int (G1 6), .int (G1 7), .int (G1 8), .int (G1 9), .int (G 10)])), (hw, .inl (kA 0, 24, .inl (va_cpy (fun t => G1 (t + 11)) (fun t => G (t + 11)) (0 : Int32).toNatClampNeg (0 : Int32).toNatClampNeg (24 : Int32).toNatClampNeg))), (h1, gC hx1 G1), (hx1, wC kA G1)] := hD
  refine lv_aload_n hx hb dX0_copyFrom_106 rfl (lv_at hl 0 rfl) ?_
  refine lv_aload_n hx hb dX0_copyFrom_107 rfl (lv_at hl 1 rfl) ?_
  refine va_get (ci := 0) (v := .int (G1 10)) (C := RX0) (T := TX0) (N := 12) hx hb hts inX0 hown hK hP 2 rfl rfl 11 (by decide) (hts _ q_88) (fun _ h9 => h9) rfl dX0_copyFrom_108 ?_
  refine va_put (ci := 0) (v := .int (G1 10)) (ty := tyX0 11) (C := RX0) (T := TX0) (N := 12) hx hb hts inX0 tyX0 tyX0_ok nmX0 hown hK hP hD hS 0 rfl rfl 11 (by decide) (hts _ q_88) (fun _ h9 => h9) rfl (tyX0_ok 11 (by decide)) rfl rfl (Nat.le_of_ble_eq_true rfl) dX0_copyFrom_111 (fun H locs hP hD hS => ?_)
  have hP : va_P D vwCl [(h0, .inr (0, [.ref hw, .int (G1 0), .int (G1 1), .int (G1 2), .int (G1 3), .int (G1 4), .int (G1 5), .int (G1 6), .int (G1 7), .int (G1 8), .int (G1 9), .int (G1 10)])), (hw, .inl (kA 0, 24, .inl (va_cpy (fun t => G1 (t + 11)) (fun t => G (t + 11)) (0 : Int32).toNatClampNeg (0 : Int32).toNatClampNeg (24 : Int32).toNatClampNeg))), (h1, gC hx1 G1), (hx1, wC kA G1)] H := hP
  have hD : va_D (Aw [(h0, gC hw G), (hw, wC kA G), (h1, gC hx1 G1), (hx1, wC kA G1)]) [(h0, .inr (0, [.ref hw, .int (G1 0), .int (G1 1), .int (G1 2), .int (G1 3), .int (G1 4), .int (G1 5), .int (G1 6), .int (G1 7), .int (G1 8), .int (G1 9), .int (G1 10)])), (hw, .inl (kA 0, 24, .inl (va_cpy (fun t => G1 (t + 11)) (fun t => G (t + 11)) (0 : Int32).toNatClampNeg (0 : Int32).toNatClampNeg (24 : Int32).toNatClampNeg))), (h1, gC hx1 G1), (hx1, wC kA G1)] := hD
  have hP : va_P D vwCl [(h0, .inr (0, [.ref hw, .int (G1 0), .int (G1 1), .int (G1 2), .int (G1 3), .int (G1 4), .int (G1 5), .int (G1 6), .int (G1 7), .int (G1 8), .int (G1 9), .int (G1 10)])), (hw, .inl (kA 0, 24, .inl (va_cpy (fun t => G1 (t + 11)) (fun t => G (t + 11)) (0 : Int32).toNatClampNeg (0 : Int32).toNatClampNeg (24 : Int32).toNatClampNeg))), (h1, gC hx1 G1), (hx1, wC kA G1)] _ := hP.sub [0, 1, 2, 3] rfl
  exact end_fv hx hb hrt hlk hP hS (by intro h; exact h.ints 1 (fun t => G1 (t + 11)) rfl (fun j hj => (pk_cpy_in (sp := 0) (dp := 0) (n := 24) (Nat.zero_le _) (by omega)).trans (by rw [Nat.zero_add, Nat.sub_zero]))) dX0_copyFrom_114
end
