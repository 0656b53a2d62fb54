section
/-- a private method of a class that the tables say can be made, by its rows of tables_1 -/
def lw_okq (q : MethodName × Nat) : Prop := (q.1.cls ≠ "java/lang/invoke/MethodHandle" ∧ q.1.cls ≠ "java/lang/invoke/VarHandle") ∧ Cond.instantiable q.1.cls q.2 ∈ tables_1 ∧ Cond.privateMethod q.1 ∈ tables_1 ∧ Cond.instanceMethod q.1 ∈ tables_1
theorem lw_p0 : lw_okq (⟨"ApronDesk", "refuse", "(I)I"⟩, 10) := ⟨⟨by decide +kernel, by decide +kernel⟩, List.mem_of_getElem? (i := 12) (by decide +kernel), List.mem_of_getElem? (i := 277) (by decide +kernel), List.mem_of_getElem? (i := 278) (by decide +kernel)⟩
theorem lw_p1 : lw_okq (⟨"ApronDesk$Ground", "addStand", "(II)I"⟩, 12) := ⟨⟨by decide +kernel, by decide +kernel⟩, List.mem_of_getElem? (i := 20) (by decide +kernel), List.mem_of_getElem? (i := 281) (by decide +kernel), List.mem_of_getElem? (i := 282) (by decide +kernel)⟩
theorem lw_p2 : lw_okq (⟨"ApronDesk", "grant", "(I)I"⟩, 10) := ⟨⟨by decide +kernel, by decide +kernel⟩, List.mem_of_getElem? (i := 12) (by decide +kernel), List.mem_of_getElem? (i := 285) (by decide +kernel), List.mem_of_getElem? (i := 286) (by decide +kernel)⟩
theorem lw_p3 : lw_okq (⟨"ApronDesk$Ground", "hasStand", "(I)Z"⟩, 12) := ⟨⟨by decide +kernel, by decide +kernel⟩, List.mem_of_getElem? (i := 20) (by decide +kernel), List.mem_of_getElem? (i := 293) (by decide +kernel), List.mem_of_getElem? (i := 294) (by decide +kernel)⟩
theorem lw_p4 : lw_okq (⟨"ApronDesk$Ground", "addPair", "(IIII)I"⟩, 12) := ⟨⟨by decide +kernel, by decide +kernel⟩, List.mem_of_getElem? (i := 20) (by decide +kernel), List.mem_of_getElem? (i := 301) (by decide +kernel), List.mem_of_getElem? (i := 302) (by decide +kernel)⟩
theorem lw_p5 : lw_okq (⟨"ApronDesk$Ground", "addCone", "(III)I"⟩, 12) := ⟨⟨by decide +kernel, by decide +kernel⟩, List.mem_of_getElem? (i := 20) (by decide +kernel), List.mem_of_getElem? (i := 312) (by decide +kernel), List.mem_of_getElem? (i := 313) (by decide +kernel)⟩
theorem lw_p6 : lw_okq (⟨"ApronDesk", "deny", "(I)Z"⟩, 10) := ⟨⟨by decide +kernel, by decide +kernel⟩, List.mem_of_getElem? (i := 12) (by decide +kernel), List.mem_of_getElem? (i := 320) (by decide +kernel), List.mem_of_getElem? (i := 321) (by decide +kernel)⟩
theorem lw_p7 : lw_okq (⟨"ApronDesk", "allow", "()Z"⟩, 10) := ⟨⟨by decide +kernel, by decide +kernel⟩, List.mem_of_getElem? (i := 12) (by decide +kernel), List.mem_of_getElem? (i := 324) (by decide +kernel), List.mem_of_getElem? (i := 325) (by decide +kernel)⟩
theorem lw_p8 : lw_okq (⟨"ApronDesk$Visits", "add", "(IIIII)I"⟩, 8) := ⟨⟨by decide +kernel, by decide +kernel⟩, List.mem_of_getElem? (i := 73) (by decide +kernel), List.mem_of_getElem? (i := 332) (by decide +kernel), List.mem_of_getElem? (i := 333) (by decide +kernel)⟩
theorem lw_p9 : lw_okq (⟨"ApronDesk$Visits", "has", "(I)Z"⟩, 8) := ⟨⟨by decide +kernel, by decide +kernel⟩, List.mem_of_getElem? (i := 73) (by decide +kernel), List.mem_of_getElem? (i := 340) (by decide +kernel), List.mem_of_getElem? (i := 341) (by decide +kernel)⟩
theorem lw_p10 : lw_okq (⟨"ApronDesk$Visits", "isPut", "(I)Z"⟩, 8) := ⟨⟨by decide +kernel, by decide +kernel⟩, List.mem_of_getElem? (i := 73) (by decide +kernel), List.mem_of_getElem? (i := 344) (by decide +kernel), List.mem_of_getElem? (i := 345) (by decide +kernel)⟩
theorem lw_p11 : lw_okq (⟨"ApronDesk", "faultOfPutting", "(II)I"⟩, 10) := ⟨⟨by decide +kernel, by decide +kernel⟩, List.mem_of_getElem? (i := 12) (by decide +kernel), List.mem_of_getElem? (i := 356) (by decide +kernel), List.mem_of_getElem? (i := 357) (by decide +kernel)⟩
theorem lw_p12 : lw_okq (⟨"ApronDesk", "faultOfLooking", "(II)I"⟩, 10) := ⟨⟨by decide +kernel, by decide +kernel⟩, List.mem_of_getElem? (i := 12) (by decide +kernel), List.mem_of_getElem? (i := 360) (by decide +kernel), List.mem_of_getElem? (i := 361) (by decide +kernel)⟩
theorem lw_p13 : lw_okq (⟨"ApronDesk$Visits", "isUnknown", "(I)Z"⟩, 8) := ⟨⟨by decide +kernel, by decide +kernel⟩, List.mem_of_getElem? (i := 73) (by decide +kernel), List.mem_of_getElem? (i := 364) (by decide +kernel), List.mem_of_getElem? (i := 365) (by decide +kernel)⟩
theorem lw_p14 : lw_okq (⟨"ApronDesk$Visits", "hasBegun", "(I)Z"⟩, 8) := ⟨⟨by decide +kernel, by decide +kernel⟩, List.mem_of_getElem? (i := 73) (by decide +kernel), List.mem_of_getElem? (i := 368) (by decide +kernel), List.mem_of_getElem? (i := 369) (by decide +kernel)⟩
theorem lw_p15 : lw_okq (⟨"ApronDesk$Visits", "inOf", "(I)I"⟩, 8) := ⟨⟨by decide +kernel, by decide +kernel⟩, List.mem_of_getElem? (i := 73) (by decide +kernel), List.mem_of_getElem? (i := 373) (by decide +kernel), List.mem_of_getElem? (i := 374) (by decide +kernel)⟩
def lw_privs_1 : List (MethodName × Nat) := [(⟨"ApronDesk", "refuse", "(I)I"⟩, 10), (⟨"ApronDesk$Ground", "addStand", "(II)I"⟩, 12), (⟨"ApronDesk", "grant", "(I)I"⟩, 10), (⟨"ApronDesk$Ground", "hasStand", "(I)Z"⟩, 12), (⟨"ApronDesk$Ground", "addPair", "(IIII)I"⟩, 12), (⟨"ApronDesk$Ground", "addCone", "(III)I"⟩, 12), (⟨"ApronDesk", "deny", "(I)Z"⟩, 10), (⟨"ApronDesk", "allow", "()Z"⟩, 10), (⟨"ApronDesk$Visits", "add", "(IIIII)I"⟩, 8), (⟨"ApronDesk$Visits", "has", "(I)Z"⟩, 8), (⟨"ApronDesk$Visits", "isPut", "(I)Z"⟩, 8), (⟨"ApronDesk", "faultOfPutting", "(II)I"⟩, 10), (⟨"ApronDesk", "faultOfLooking", "(II)I"⟩, 10), (⟨"ApronDesk$Visits", "isUnknown", "(I)Z"⟩, 8), (⟨"ApronDesk$Visits", "hasBegun", "(I)Z"⟩, 8), (⟨"ApronDesk$Visits", "inOf", "(I)I"⟩, 8)]
theorem lw_r1 : ∀ q ∈ lw_privs_1, lw_okq q := List.forall_mem_cons.mpr ⟨lw_p0, List.forall_mem_cons.mpr ⟨lw_p1, List.forall_mem_cons.mpr ⟨lw_p2, List.forall_mem_cons.mpr ⟨lw_p3, List.forall_mem_cons.mpr ⟨lw_p4, List.forall_mem_cons.mpr ⟨lw_p5, List.forall_mem_cons.mpr ⟨lw_p6, List.forall_mem_cons.mpr ⟨lw_p7, List.forall_mem_cons.mpr ⟨lw_p8, List.forall_mem_cons.mpr ⟨lw_p9, List.forall_mem_cons.mpr ⟨lw_p10, List.forall_mem_cons.mpr ⟨lw_p11, List.forall_mem_cons.mpr ⟨lw_p12, List.forall_mem_cons.mpr ⟨lw_p13, List.forall_mem_cons.mpr ⟨lw_p14, List.forall_mem_cons.mpr ⟨lw_p15, fun _ h => absurd h List.not_mem_nil⟩⟩⟩⟩⟩⟩⟩⟩⟩⟩⟩⟩⟩⟩⟩⟩
theorem lw_p16 : lw_okq (⟨"ApronDesk$Visits", "outOf", "(I)I"⟩, 8) := ⟨⟨by decide +kernel, by decide +kernel⟩, List.mem_of_getElem? (i := 73) (by decide +kernel), List.mem_of_getElem? (i := 378) (by decide +kernel), List.mem_of_getElem? (i := 379) (by decide +kernel)⟩
theorem lw_p17 : lw_okq (⟨"ApronDesk", "isHindered", "(IIII)Z"⟩, 10) := ⟨⟨by decide +kernel, by decide +kernel⟩, List.mem_of_getElem? (i := 12) (by decide +kernel), List.mem_of_getElem? (i := 382) (by decide +kernel), List.mem_of_getElem? (i := 383) (by decide +kernel)⟩
theorem lw_p18 : lw_okq (⟨"ApronDesk$Judge", "regard", "(I)V"⟩, 8) := ⟨⟨by decide +kernel, by decide +kernel⟩, List.mem_of_getElem? (i := 114) (by decide +kernel), List.mem_of_getElem? (i := 386) (by decide +kernel), List.mem_of_getElem? (i := 387) (by decide +kernel)⟩
theorem lw_p19 : lw_okq (⟨"ApronDesk$Visits", "kindOf", "(I)I"⟩, 8) := ⟨⟨by decide +kernel, by decide +kernel⟩, List.mem_of_getElem? (i := 73) (by decide +kernel), List.mem_of_getElem? (i := 390) (by decide +kernel), List.mem_of_getElem? (i := 391) (by decide +kernel)⟩
theorem lw_p20 : lw_okq (⟨"ApronDesk$Visits", "wingOf", "(I)I"⟩, 8) := ⟨⟨by decide +kernel, by decide +kernel⟩, List.mem_of_getElem? (i := 73) (by decide +kernel), List.mem_of_getElem? (i := 394) (by decide +kernel), List.mem_of_getElem? (i := 395) (by decide +kernel)⟩
theorem lw_p21 : lw_okq (⟨"ApronDesk$Visits", "needOf", "(I)I"⟩, 8) := ⟨⟨by decide +kernel, by decide +kernel⟩, List.mem_of_getElem? (i := 73) (by decide +kernel), List.mem_of_getElem? (i := 398) (by decide +kernel), List.mem_of_getElem? (i := 399) (by decide +kernel)⟩
theorem lw_p22 : lw_okq (⟨"ApronDesk$Judge", "against", "(III)I"⟩, 8) := ⟨⟨by decide +kernel, by decide +kernel⟩, List.mem_of_getElem? (i := 114) (by decide +kernel), List.mem_of_getElem? (i := 402) (by decide +kernel), List.mem_of_getElem? (i := 403) (by decide +kernel)⟩
theorem lw_p23 : lw_okq (⟨"ApronDesk$Judge", "isUnfit", "(III)Z"⟩, 8) := ⟨⟨by decide +kernel, by decide +kernel⟩, List.mem_of_getElem? (i := 114) (by decide +kernel), List.mem_of_getElem? (i := 406) (by decide +kernel), List.mem_of_getElem? (i := 407) (by decide +kernel)⟩
theorem lw_p24 : lw_okq (⟨"ApronDesk$Ground", "hasGate", "(I)Z"⟩, 12) := ⟨⟨by decide +kernel, by decide +kernel⟩, List.mem_of_getElem? (i := 20) (by decide +kernel), List.mem_of_getElem? (i := 410) (by decide +kernel), List.mem_of_getElem? (i := 411) (by decide +kernel)⟩
theorem lw_p25 : lw_okq (⟨"ApronDesk$Judge", "firstNeighbour", "(III)I"⟩, 8) := ⟨⟨by decide +kernel, by decide +kernel⟩, List.mem_of_getElem? (i := 114) (by decide +kernel), List.mem_of_getElem? (i := 417) (by decide +kernel), List.mem_of_getElem? (i := 418) (by decide +kernel)⟩
theorem lw_p26 : lw_okq (⟨"ApronDesk$Judge", "isOther", "(I)Z"⟩, 8) := ⟨⟨by decide +kernel, by decide +kernel⟩, List.mem_of_getElem? (i := 114) (by decide +kernel), List.mem_of_getElem? (i := 421) (by decide +kernel), List.mem_of_getElem? (i := 422) (by decide +kernel)⟩
theorem lw_p27 : lw_okq (⟨"ApronDesk$Judge", "isNeighbour", "(IIII)Z"⟩, 8) := ⟨⟨by decide +kernel, by decide +kernel⟩, List.mem_of_getElem? (i := 114) (by decide +kernel), List.mem_of_getElem? (i := 425) (by decide +kernel), List.mem_of_getElem? (i := 426) (by decide +kernel)⟩
theorem lw_p28 : lw_okq (⟨"ApronDesk$Visits", "fromOf", "(II)I"⟩, 8) := ⟨⟨by decide +kernel, by decide +kernel⟩, List.mem_of_getElem? (i := 73) (by decide +kernel), List.mem_of_getElem? (i := 429) (by decide +kernel), List.mem_of_getElem? (i := 430) (by decide +kernel)⟩
theorem lw_p29 : lw_okq (⟨"ApronDesk$Visits", "endOf", "(II)I"⟩, 8) := ⟨⟨by decide +kernel, by decide +kernel⟩, List.mem_of_getElem? (i := 73) (by decide +kernel), List.mem_of_getElem? (i := 433) (by decide +kernel), List.mem_of_getElem? (i := 434) (by decide +kernel)⟩
theorem lw_p30 : lw_okq (⟨"ApronDesk$Visits", "standOf", "(II)I"⟩, 8) := ⟨⟨by decide +kernel, by decide +kernel⟩, List.mem_of_getElem? (i := 73) (by decide +kernel), List.mem_of_getElem? (i := 437) (by decide +kernel), List.mem_of_getElem? (i := 438) (by decide +kernel)⟩
theorem lw_p31 : lw_okq (⟨"ApronDesk$Ground", "areTooNear", "(IIII)Z"⟩, 12) := ⟨⟨by decide +kernel, by decide +kernel⟩, List.mem_of_getElem? (i := 20) (by decide +kernel), List.mem_of_getElem? (i := 441) (by decide +kernel), List.mem_of_getElem? (i := 442) (by decide +kernel)⟩
def lw_privs_2 : List (MethodName × Nat) := [(⟨"ApronDesk$Visits", "outOf", "(I)I"⟩, 8), (⟨"ApronDesk", "isHindered", "(IIII)Z"⟩, 10), (⟨"ApronDesk$Judge", "regard", "(I)V"⟩, 8), (⟨"ApronDesk$Visits", "kindOf", "(I)I"⟩, 8), (⟨"ApronDesk$Visits", "wingOf", "(I)I"⟩, 8), (⟨"ApronDesk$Visits", "needOf", "(I)I"⟩, 8), (⟨"ApronDesk$Judge", "against", "(III)I"⟩, 8), (⟨"ApronDesk$Judge", "isUnfit", "(III)Z"⟩, 8), (⟨"ApronDesk$Ground", "hasGate", "(I)Z"⟩, 12), (⟨"ApronDesk$Judge", "firstNeighbour", "(III)I"⟩, 8), (⟨"ApronDesk$Judge", "isOther", "(I)Z"⟩, 8), (⟨"ApronDesk$Judge", "isNeighbour", "(IIII)Z"⟩, 8), (⟨"ApronDesk$Visits", "fromOf", "(II)I"⟩, 8), (⟨"ApronDesk$Visits", "endOf", "(II)I"⟩, 8), (⟨"ApronDesk$Visits", "standOf", "(II)I"⟩, 8), (⟨"ApronDesk$Ground", "areTooNear", "(IIII)Z"⟩, 12)]
theorem lw_r2 : ∀ q ∈ lw_privs_2, lw_okq q := List.forall_mem_cons.mpr ⟨lw_p16, List.forall_mem_cons.mpr ⟨lw_p17, List.forall_mem_cons.mpr ⟨lw_p18, List.forall_mem_cons.mpr ⟨lw_p19, List.forall_mem_cons.mpr ⟨lw_p20, List.forall_mem_cons.mpr ⟨lw_p21, List.forall_mem_cons.mpr ⟨lw_p22, List.forall_mem_cons.mpr ⟨lw_p23, List.forall_mem_cons.mpr ⟨lw_p24, List.forall_mem_cons.mpr ⟨lw_p25, List.forall_mem_cons.mpr ⟨lw_p26, List.forall_mem_cons.mpr ⟨lw_p27, List.forall_mem_cons.mpr ⟨lw_p28, List.forall_mem_cons.mpr ⟨lw_p29, List.forall_mem_cons.mpr ⟨lw_p30, List.forall_mem_cons.mpr ⟨lw_p31, fun _ h => absurd h List.not_mem_nil⟩⟩⟩⟩⟩⟩⟩⟩⟩⟩⟩⟩⟩⟩⟩⟩
theorem lw_p32 : lw_okq (⟨"ApronDesk$Ground", "firstCone", "(III)I"⟩, 12) := ⟨⟨by decide +kernel, by decide +kernel⟩, List.mem_of_getElem? (i := 20) (by decide +kernel), List.mem_of_getElem? (i := 445) (by decide +kernel), List.mem_of_getElem? (i := 446) (by decide +kernel)⟩
theorem lw_p33 : lw_okq (⟨"ApronDesk$Judge", "firstTaker", "(III)I"⟩, 8) := ⟨⟨by decide +kernel, by decide +kernel⟩, List.mem_of_getElem? (i := 114) (by decide +kernel), List.mem_of_getElem? (i := 450) (by decide +kernel), List.mem_of_getElem? (i := 451) (by decide +kernel)⟩
theorem lw_p34 : lw_okq (⟨"ApronDesk$Visits", "isStayAt", "(IIIII)Z"⟩, 8) := ⟨⟨by decide +kernel, by decide +kernel⟩, List.mem_of_getElem? (i := 73) (by decide +kernel), List.mem_of_getElem? (i := 454) (by decide +kernel), List.mem_of_getElem? (i := 455) (by decide +kernel)⟩
theorem lw_p35 : lw_okq (⟨"ApronDesk$Judge", "mayShare", "(II)Z"⟩, 8) := ⟨⟨by decide +kernel, by decide +kernel⟩, List.mem_of_getElem? (i := 114) (by decide +kernel), List.mem_of_getElem? (i := 458) (by decide +kernel), List.mem_of_getElem? (i := 459) (by decide +kernel)⟩
theorem lw_p36 : lw_okq (⟨"ApronDesk$Ground", "halfOf", "(I)I"⟩, 12) := ⟨⟨by decide +kernel, by decide +kernel⟩, List.mem_of_getElem? (i := 20) (by decide +kernel), List.mem_of_getElem? (i := 462) (by decide +kernel), List.mem_of_getElem? (i := 463) (by decide +kernel)⟩
theorem lw_p37 : lw_okq (⟨"ApronDesk$Judge", "isThirdThere", "(IIII)Z"⟩, 8) := ⟨⟨by decide +kernel, by decide +kernel⟩, List.mem_of_getElem? (i := 114) (by decide +kernel), List.mem_of_getElem? (i := 466) (by decide +kernel), List.mem_of_getElem? (i := 467) (by decide +kernel)⟩
theorem lw_p38 : lw_okq (⟨"ApronDesk", "keepReason", "(I)V"⟩, 10) := ⟨⟨by decide +kernel, by decide +kernel⟩, List.mem_of_getElem? (i := 12) (by decide +kernel), List.mem_of_getElem? (i := 476) (by decide +kernel), List.mem_of_getElem? (i := 477) (by decide +kernel)⟩
theorem lw_p39 : lw_okq (⟨"ApronDesk$Visits", "place", "(III)Z"⟩, 8) := ⟨⟨by decide +kernel, by decide +kernel⟩, List.mem_of_getElem? (i := 73) (by decide +kernel), List.mem_of_getElem? (i := 480) (by decide +kernel), List.mem_of_getElem? (i := 481) (by decide +kernel)⟩
theorem lw_p40 : lw_okq (⟨"ApronDesk$Visits", "addStay", "(III)V"⟩, 8) := ⟨⟨by decide +kernel, by decide +kernel⟩, List.mem_of_getElem? (i := 73) (by decide +kernel), List.mem_of_getElem? (i := 484) (by decide +kernel), List.mem_of_getElem? (i := 485) (by decide +kernel)⟩
theorem lw_p41 : lw_okq (⟨"ApronDesk$Visits", "takeOff", "(I)V"⟩, 8) := ⟨⟨by decide +kernel, by decide +kernel⟩, List.mem_of_getElem? (i := 73) (by decide +kernel), List.mem_of_getElem? (i := 497) (by decide +kernel), List.mem_of_getElem? (i := 498) (by decide +kernel)⟩
theorem lw_p42 : lw_okq (⟨"ApronDesk", "faultOfTowing", "(III)I"⟩, 10) := ⟨⟨by decide +kernel, by decide +kernel⟩, List.mem_of_getElem? (i := 12) (by decide +kernel), List.mem_of_getElem? (i := 505) (by decide +kernel), List.mem_of_getElem? (i := 506) (by decide +kernel)⟩
theorem lw_p43 : lw_okq (⟨"ApronDesk$Visits", "endLastStay", "(II)V"⟩, 8) := ⟨⟨by decide +kernel, by decide +kernel⟩, List.mem_of_getElem? (i := 73) (by decide +kernel), List.mem_of_getElem? (i := 511) (by decide +kernel), List.mem_of_getElem? (i := 512) (by decide +kernel)⟩
theorem lw_p44 : lw_okq (⟨"ApronDesk$Line", "empty", "()V"⟩, 2) := ⟨⟨by decide +kernel, by decide +kernel⟩, List.mem_of_getElem? (i := 155) (by decide +kernel), List.mem_of_getElem? (i := 520) (by decide +kernel), List.mem_of_getElem? (i := 521) (by decide +kernel)⟩
theorem lw_p45 : lw_okq (⟨"ApronDesk$Visits", "isToCome", "(I)Z"⟩, 8) := ⟨⟨by decide +kernel, by decide +kernel⟩, List.mem_of_getElem? (i := 73) (by decide +kernel), List.mem_of_getElem? (i := 524) (by decide +kernel), List.mem_of_getElem? (i := 525) (by decide +kernel)⟩
theorem lw_p46 : lw_okq (⟨"ApronDesk$Line", "joinByIn", "(ILApronDesk$Visits;)V"⟩, 2) := ⟨⟨by decide +kernel, by decide +kernel⟩, List.mem_of_getElem? (i := 155) (by decide +kernel), List.mem_of_getElem? (i := 530) (by decide +kernel), List.mem_of_getElem? (i := 531) (by decide +kernel)⟩
theorem lw_p47 : lw_okq (⟨"ApronDesk", "serveLine", "()I"⟩, 10) := ⟨⟨by decide +kernel, by decide +kernel⟩, List.mem_of_getElem? (i := 12) (by decide +kernel), List.mem_of_getElem? (i := 535) (by decide +kernel), List.mem_of_getElem? (i := 536) (by decide +kernel)⟩
def lw_privs_3 : List (MethodName × Nat) := [(⟨"ApronDesk$Ground", "firstCone", "(III)I"⟩, 12), (⟨"ApronDesk$Judge", "firstTaker", "(III)I"⟩, 8), (⟨"ApronDesk$Visits", "isStayAt", "(IIIII)Z"⟩, 8), (⟨"ApronDesk$Judge", "mayShare", "(II)Z"⟩, 8), (⟨"ApronDesk$Ground", "halfOf", "(I)I"⟩, 12), (⟨"ApronDesk$Judge", "isThirdThere", "(IIII)Z"⟩, 8), (⟨"ApronDesk", "keepReason", "(I)V"⟩, 10), (⟨"ApronDesk$Visits", "place", "(III)Z"⟩, 8), (⟨"ApronDesk$Visits", "addStay", "(III)V"⟩, 8), (⟨"ApronDesk$Visits", "takeOff", "(I)V"⟩, 8), (⟨"ApronDesk", "faultOfTowing", "(III)I"⟩, 10), (⟨"ApronDesk$Visits", "endLastStay", "(II)V"⟩, 8), (⟨"ApronDesk$Line", "empty", "()V"⟩, 2), (⟨"ApronDesk$Visits", "isToCome", "(I)Z"⟩, 8), (⟨"ApronDesk$Line", "joinByIn", "(ILApronDesk$Visits;)V"⟩, 2), (⟨"ApronDesk", "serveLine", "()I"⟩, 10)]
theorem lw_r3 : ∀ q ∈ lw_privs_3, lw_okq q := List.forall_mem_cons.mpr ⟨lw_p32, List.forall_mem_cons.mpr ⟨lw_p33, List.forall_mem_cons.mpr ⟨lw_p34, List.forall_mem_cons.mpr ⟨lw_p35, List.forall_mem_cons.mpr ⟨lw_p36, List.forall_mem_cons.mpr ⟨lw_p37, List.forall_mem_cons.mpr ⟨lw_p38, List.forall_mem_cons.mpr ⟨lw_p39, List.forall_mem_cons.mpr ⟨lw_p40, List.forall_mem_cons.mpr ⟨lw_p41, List.forall_mem_cons.mpr ⟨lw_p42, List.forall_mem_cons.mpr ⟨lw_p43, List.forall_mem_cons.mpr ⟨lw_p44, List.forall_mem_cons.mpr ⟨lw_p45, List.forall_mem_cons.mpr ⟨lw_p46, List.forall_mem_cons.mpr ⟨lw_p47, fun _ h => absurd h List.not_mem_nil⟩⟩⟩⟩⟩⟩⟩⟩⟩⟩⟩⟩⟩⟩⟩⟩
theorem lw_p48 : lw_okq (⟨"ApronDesk$Judge", "bestStand", "(II)I"⟩, 8) := ⟨⟨by decide +kernel, by decide +kernel⟩, List.mem_of_getElem? (i := 114) (by decide +kernel), List.mem_of_getElem? (i := 540) (by decide +kernel), List.mem_of_getElem? (i := 541) (by decide +kernel)⟩
theorem lw_p49 : lw_okq (⟨"ApronDesk$Searcher", "takeFirst", "()I"⟩, 9) := ⟨⟨by decide +kernel, by decide +kernel⟩, List.mem_of_getElem? (i := 149) (by decide +kernel), List.mem_of_getElem? (i := 555) (by decide +kernel), List.mem_of_getElem? (i := 556) (by decide +kernel)⟩
theorem lw_p50 : lw_okq (⟨"ApronDesk$Searcher", "begin", "()V"⟩, 9) := ⟨⟨by decide +kernel, by decide +kernel⟩, List.mem_of_getElem? (i := 149) (by decide +kernel), List.mem_of_getElem? (i := 559) (by decide +kernel), List.mem_of_getElem? (i := 560) (by decide +kernel)⟩
theorem lw_p51 : lw_okq (⟨"ApronDesk$Line", "join", "(I)V"⟩, 2) := ⟨⟨by decide +kernel, by decide +kernel⟩, List.mem_of_getElem? (i := 155) (by decide +kernel), List.mem_of_getElem? (i := 565) (by decide +kernel), List.mem_of_getElem? (i := 566) (by decide +kernel)⟩
theorem lw_p52 : lw_okq (⟨"ApronDesk$Searcher", "goToNextWhole", "()I"⟩, 9) := ⟨⟨by decide +kernel, by decide +kernel⟩, List.mem_of_getElem? (i := 149) (by decide +kernel), List.mem_of_getElem? (i := 569) (by decide +kernel), List.mem_of_getElem? (i := 570) (by decide +kernel)⟩
theorem lw_p53 : lw_okq (⟨"ApronDesk$Searcher", "takeAllOff", "()V"⟩, 9) := ⟨⟨by decide +kernel, by decide +kernel⟩, List.mem_of_getElem? (i := 149) (by decide +kernel), List.mem_of_getElem? (i := 579) (by decide +kernel), List.mem_of_getElem? (i := 580) (by decide +kernel)⟩
theorem lw_p54 : lw_okq (⟨"ApronDesk$Searcher", "takeBest", "()I"⟩, 9) := ⟨⟨by decide +kernel, by decide +kernel⟩, List.mem_of_getElem? (i := 149) (by decide +kernel), List.mem_of_getElem? (i := 587) (by decide +kernel), List.mem_of_getElem? (i := 588) (by decide +kernel)⟩
theorem lw_p55 : lw_okq (⟨"ApronDesk$Searcher", "keepIfBetter", "()V"⟩, 9) := ⟨⟨by decide +kernel, by decide +kernel⟩, List.mem_of_getElem? (i := 149) (by decide +kernel), List.mem_of_getElem? (i := 591) (by decide +kernel), List.mem_of_getElem? (i := 592) (by decide +kernel)⟩
theorem lw_p56 : lw_okq (⟨"ApronDesk$Searcher", "putBest", "()V"⟩, 9) := ⟨⟨by decide +kernel, by decide +kernel⟩, List.mem_of_getElem? (i := 149) (by decide +kernel), List.mem_of_getElem? (i := 599) (by decide +kernel), List.mem_of_getElem? (i := 600) (by decide +kernel)⟩
theorem lw_p57 : lw_okq (⟨"ApronDesk$Delay", "makeRoom", "(II)I"⟩, 5) := ⟨⟨by decide +kernel, by decide +kernel⟩, List.mem_of_getElem? (i := 204) (by decide +kernel), List.mem_of_getElem? (i := 607) (by decide +kernel), List.mem_of_getElem? (i := 608) (by decide +kernel)⟩
theorem lw_p58 : lw_okq (⟨"ApronDesk$Delay", "canGo", "(I)Z"⟩, 5) := ⟨⟨by decide +kernel, by decide +kernel⟩, List.mem_of_getElem? (i := 204) (by decide +kernel), List.mem_of_getElem? (i := 615) (by decide +kernel), List.mem_of_getElem? (i := 616) (by decide +kernel)⟩
theorem lw_p59 : lw_okq (⟨"ApronDesk$Judge", "sendAway", "(I)V"⟩, 8) := ⟨⟨by decide +kernel, by decide +kernel⟩, List.mem_of_getElem? (i := 114) (by decide +kernel), List.mem_of_getElem? (i := 620) (by decide +kernel), List.mem_of_getElem? (i := 621) (by decide +kernel)⟩
theorem lw_p60 : lw_okq (⟨"ApronDesk$Judge", "callAllBack", "()V"⟩, 8) := ⟨⟨by decide +kernel, by decide +kernel⟩, List.mem_of_getElem? (i := 114) (by decide +kernel), List.mem_of_getElem? (i := 625) (by decide +kernel), List.mem_of_getElem? (i := 626) (by decide +kernel)⟩
theorem lw_p61 : lw_okq (⟨"ApronDesk$Delay", "bend", "(II)I"⟩, 5) := ⟨⟨by decide +kernel, by decide +kernel⟩, List.mem_of_getElem? (i := 204) (by decide +kernel), List.mem_of_getElem? (i := 629) (by decide +kernel), List.mem_of_getElem? (i := 630) (by decide +kernel)⟩
theorem lw_p62 : lw_okq (⟨"ApronDesk$Visits", "makeLate", "(II)V"⟩, 8) := ⟨⟨by decide +kernel, by decide +kernel⟩, List.mem_of_getElem? (i := 73) (by decide +kernel), List.mem_of_getElem? (i := 633) (by decide +kernel), List.mem_of_getElem? (i := 634) (by decide +kernel)⟩
theorem lw_p63 : lw_okq (⟨"ApronDesk$Delay", "takeMoversOff", "()V"⟩, 5) := ⟨⟨by decide +kernel, by decide +kernel⟩, List.mem_of_getElem? (i := 204) (by decide +kernel), List.mem_of_getElem? (i := 638) (by decide +kernel), List.mem_of_getElem? (i := 639) (by decide +kernel)⟩
def lw_privs_4 : List (MethodName × Nat) := [(⟨"ApronDesk$Judge", "bestStand", "(II)I"⟩, 8), (⟨"ApronDesk$Searcher", "takeFirst", "()I"⟩, 9), (⟨"ApronDesk$Searcher", "begin", "()V"⟩, 9), (⟨"ApronDesk$Line", "join", "(I)V"⟩, 2), (⟨"ApronDesk$Searcher", "goToNextWhole", "()I"⟩, 9), (⟨"ApronDesk$Searcher", "takeAllOff", "()V"⟩, 9), (⟨"ApronDesk$Searcher", "takeBest", "()I"⟩, 9), (⟨"ApronDesk$Searcher", "keepIfBetter", "()V"⟩, 9), (⟨"ApronDesk$Searcher", "putBest", "()V"⟩, 9), (⟨"ApronDesk$Delay", "makeRoom", "(II)I"⟩, 5), (⟨"ApronDesk$Delay", "canGo", "(I)Z"⟩, 5), (⟨"ApronDesk$Judge", "sendAway", "(I)V"⟩, 8), (⟨"ApronDesk$Judge", "callAllBack", "()V"⟩, 8), (⟨"ApronDesk$Delay", "bend", "(II)I"⟩, 5), (⟨"ApronDesk$Visits", "makeLate", "(II)V"⟩, 8), (⟨"ApronDesk$Delay", "takeMoversOff", "()V"⟩, 5)]
theorem lw_r4 : ∀ q ∈ lw_privs_4, lw_okq q := List.forall_mem_cons.mpr ⟨lw_p48, List.forall_mem_cons.mpr ⟨lw_p49, List.forall_mem_cons.mpr ⟨lw_p50, List.forall_mem_cons.mpr ⟨lw_p51, List.forall_mem_cons.mpr ⟨lw_p52, List.forall_mem_cons.mpr ⟨lw_p53, List.forall_mem_cons.mpr ⟨lw_p54, List.forall_mem_cons.mpr ⟨lw_p55, List.forall_mem_cons.mpr ⟨lw_p56, List.forall_mem_cons.mpr ⟨lw_p57, List.forall_mem_cons.mpr ⟨lw_p58, List.forall_mem_cons.mpr ⟨lw_p59, List.forall_mem_cons.mpr ⟨lw_p60, List.forall_mem_cons.mpr ⟨lw_p61, List.forall_mem_cons.mpr ⟨lw_p62, List.forall_mem_cons.mpr ⟨lw_p63, fun _ h => absurd h List.not_mem_nil⟩⟩⟩⟩⟩⟩⟩⟩⟩⟩⟩⟩⟩⟩⟩⟩
theorem lw_p64 : lw_okq (⟨"ApronDesk$Line", "memberAt", "(I)I"⟩, 2) := ⟨⟨by decide +kernel, by decide +kernel⟩, List.mem_of_getElem? (i := 155) (by decide +kernel), List.mem_of_getElem? (i := 653) (by decide +kernel), List.mem_of_getElem? (i := 654) (by decide +kernel)⟩
theorem lw_p65 : lw_okq (⟨"ApronDesk$Visits", "isWaiting", "(I)Z"⟩, 8) := ⟨⟨by decide +kernel, by decide +kernel⟩, List.mem_of_getElem? (i := 73) (by decide +kernel), List.mem_of_getElem? (i := 661) (by decide +kernel), List.mem_of_getElem? (i := 662) (by decide +kernel)⟩
theorem lw_p66 : lw_okq (⟨"ApronDesk", "faultOfSwapping", "(II)I"⟩, 10) := ⟨⟨by decide +kernel, by decide +kernel⟩, List.mem_of_getElem? (i := 12) (by decide +kernel), List.mem_of_getElem? (i := 673) (by decide +kernel), List.mem_of_getElem? (i := 674) (by decide +kernel)⟩
theorem lw_p67 : lw_okq (⟨"ApronDesk$Visits", "moveFirstStay", "(II)V"⟩, 8) := ⟨⟨by decide +kernel, by decide +kernel⟩, List.mem_of_getElem? (i := 73) (by decide +kernel), List.mem_of_getElem? (i := 680) (by decide +kernel), List.mem_of_getElem? (i := 681) (by decide +kernel)⟩
theorem lw_p68 : lw_okq (⟨"ApronDesk$Visits", "isThere", "(IIII)Z"⟩, 8) := ⟨⟨by decide +kernel, by decide +kernel⟩, List.mem_of_getElem? (i := 73) (by decide +kernel), List.mem_of_getElem? (i := 696) (by decide +kernel), List.mem_of_getElem? (i := 697) (by decide +kernel)⟩
theorem lw_p69 : lw_okq (⟨"ApronDesk$Judge", "regardPlane", "(I)V"⟩, 8) := ⟨⟨by decide +kernel, by decide +kernel⟩, List.mem_of_getElem? (i := 114) (by decide +kernel), List.mem_of_getElem? (i := 706) (by decide +kernel), List.mem_of_getElem? (i := 707) (by decide +kernel)⟩
theorem lw_p70 : lw_okq (⟨"ApronDeskModel", "refuse", "(I)I"⟩, 35) := ⟨⟨by decide +kernel, by decide +kernel⟩, List.mem_of_getElem? (i := 710) (by decide +kernel), List.mem_of_getElem? (i := 834) (by decide +kernel), List.mem_of_getElem? (i := 835) (by decide +kernel)⟩
theorem lw_p71 : lw_okq (⟨"ApronDeskModel", "gives", "(I)I"⟩, 35) := ⟨⟨by decide +kernel, by decide +kernel⟩, List.mem_of_getElem? (i := 710) (by decide +kernel), List.mem_of_getElem? (i := 838) (by decide +kernel), List.mem_of_getElem? (i := 839) (by decide +kernel)⟩
theorem lw_p72 : lw_okq (⟨"ApronDeskModel", "isStand", "(I)Z"⟩, 35) := ⟨⟨by decide +kernel, by decide +kernel⟩, List.mem_of_getElem? (i := 710) (by decide +kernel), List.mem_of_getElem? (i := 846) (by decide +kernel), List.mem_of_getElem? (i := 847) (by decide +kernel)⟩
theorem lw_p73 : lw_okq (⟨"ApronDeskModel", "isVisit", "(I)Z"⟩, 35) := ⟨⟨by decide +kernel, by decide +kernel⟩, List.mem_of_getElem? (i := 710) (by decide +kernel), List.mem_of_getElem? (i := 873) (by decide +kernel), List.mem_of_getElem? (i := 874) (by decide +kernel)⟩
theorem lw_p74 : lw_okq (⟨"ApronDeskModel", "isPut", "(I)Z"⟩, 35) := ⟨⟨by decide +kernel, by decide +kernel⟩, List.mem_of_getElem? (i := 710) (by decide +kernel), List.mem_of_getElem? (i := 877) (by decide +kernel), List.mem_of_getElem? (i := 878) (by decide +kernel)⟩
theorem lw_p75 : lw_okq (⟨"ApronDeskModel", "isUnknown", "(I)Z"⟩, 35) := ⟨⟨by decide +kernel, by decide +kernel⟩, List.mem_of_getElem? (i := 710) (by decide +kernel), List.mem_of_getElem? (i := 889) (by decide +kernel), List.mem_of_getElem? (i := 890) (by decide +kernel)⟩
theorem lw_p76 : lw_okq (⟨"ApronDeskModel", "hasBegun", "(I)Z"⟩, 35) := ⟨⟨by decide +kernel, by decide +kernel⟩, List.mem_of_getElem? (i := 710) (by decide +kernel), List.mem_of_getElem? (i := 893) (by decide +kernel), List.mem_of_getElem? (i := 894) (by decide +kernel)⟩
theorem lw_p77 : lw_okq (⟨"ApronDeskModel", "inOf", "(I)I"⟩, 35) := ⟨⟨by decide +kernel, by decide +kernel⟩, List.mem_of_getElem? (i := 710) (by decide +kernel), List.mem_of_getElem? (i := 897) (by decide +kernel), List.mem_of_getElem? (i := 898) (by decide +kernel)⟩
theorem lw_p78 : lw_okq (⟨"ApronDeskModel", "outOf", "(I)I"⟩, 35) := ⟨⟨by decide +kernel, by decide +kernel⟩, List.mem_of_getElem? (i := 710) (by decide +kernel), List.mem_of_getElem? (i := 901) (by decide +kernel), List.mem_of_getElem? (i := 902) (by decide +kernel)⟩
theorem lw_p79 : lw_okq (⟨"ApronDeskModel", "againstOf", "(IIII)I"⟩, 35) := ⟨⟨by decide +kernel, by decide +kernel⟩, List.mem_of_getElem? (i := 710) (by decide +kernel), List.mem_of_getElem? (i := 905) (by decide +kernel), List.mem_of_getElem? (i := 906) (by decide +kernel)⟩
def lw_privs_5 : List (MethodName × Nat) := [(⟨"ApronDesk$Line", "memberAt", "(I)I"⟩, 2), (⟨"ApronDesk$Visits", "isWaiting", "(I)Z"⟩, 8), (⟨"ApronDesk", "faultOfSwapping", "(II)I"⟩, 10), (⟨"ApronDesk$Visits", "moveFirstStay", "(II)V"⟩, 8), (⟨"ApronDesk$Visits", "isThere", "(IIII)Z"⟩, 8), (⟨"ApronDesk$Judge", "regardPlane", "(I)V"⟩, 8), (⟨"ApronDeskModel", "refuse", "(I)I"⟩, 35), (⟨"ApronDeskModel", "gives", "(I)I"⟩, 35), (⟨"ApronDeskModel", "isStand", "(I)Z"⟩, 35), (⟨"ApronDeskModel", "isVisit", "(I)Z"⟩, 35), (⟨"ApronDeskModel", "isPut", "(I)Z"⟩, 35), (⟨"ApronDeskModel", "isUnknown", "(I)Z"⟩, 35), (⟨"ApronDeskModel", "hasBegun", "(I)Z"⟩, 35), (⟨"ApronDeskModel", "inOf", "(I)I"⟩, 35), (⟨"ApronDeskModel", "outOf", "(I)I"⟩, 35), (⟨"ApronDeskModel", "againstOf", "(IIII)I"⟩, 35)]
theorem lw_r5 : ∀ q ∈ lw_privs_5, lw_okq q := List.forall_mem_cons.mpr ⟨lw_p64, List.forall_mem_cons.mpr ⟨lw_p65, List.forall_mem_cons.mpr ⟨lw_p66, List.forall_mem_cons.mpr ⟨lw_p67, List.forall_mem_cons.mpr ⟨lw_p68, List.forall_mem_cons.mpr ⟨lw_p69, List.forall_mem_cons.mpr ⟨lw_p70, List.forall_mem_cons.mpr ⟨lw_p71, List.forall_mem_cons.mpr ⟨lw_p72, List.forall_mem_cons.mpr ⟨lw_p73, List.forall_mem_cons.mpr ⟨lw_p74, List.forall_mem_cons.mpr ⟨lw_p75, List.forall_mem_cons.mpr ⟨lw_p76, List.forall_mem_cons.mpr ⟨lw_p77, List.forall_mem_cons.mpr ⟨lw_p78, List.forall_mem_cons.mpr ⟨lw_p79, fun _ h => absurd h List.not_mem_nil⟩⟩⟩⟩⟩⟩⟩⟩⟩⟩⟩⟩⟩⟩⟩⟩
theorem lw_p80 : lw_okq (⟨"ApronDeskModel", "kindOf", "(I)I"⟩, 35) := ⟨⟨by decide +kernel, by decide +kernel⟩, List.mem_of_getElem? (i := 710) (by decide +kernel), List.mem_of_getElem? (i := 909) (by decide +kernel), List.mem_of_getElem? (i := 910) (by decide +kernel)⟩
theorem lw_p81 : lw_okq (⟨"ApronDeskModel", "wingOf", "(I)I"⟩, 35) := ⟨⟨by decide +kernel, by decide +kernel⟩, List.mem_of_getElem? (i := 710) (by decide +kernel), List.mem_of_getElem? (i := 913) (by decide +kernel), List.mem_of_getElem? (i := 914) (by decide +kernel)⟩
theorem lw_p82 : lw_okq (⟨"ApronDeskModel", "needOf", "(I)I"⟩, 35) := ⟨⟨by decide +kernel, by decide +kernel⟩, List.mem_of_getElem? (i := 710) (by decide +kernel), List.mem_of_getElem? (i := 917) (by decide +kernel), List.mem_of_getElem? (i := 918) (by decide +kernel)⟩
theorem lw_p83 : lw_okq (⟨"ApronDeskModel", "against", "(IIIIIII)I"⟩, 35) := ⟨⟨by decide +kernel, by decide +kernel⟩, List.mem_of_getElem? (i := 710) (by decide +kernel), List.mem_of_getElem? (i := 921) (by decide +kernel), List.mem_of_getElem? (i := 922) (by decide +kernel)⟩
theorem lw_p84 : lw_okq (⟨"ApronDeskModel", "isNeighbour", "(IIIII)Z"⟩, 35) := ⟨⟨by decide +kernel, by decide +kernel⟩, List.mem_of_getElem? (i := 710) (by decide +kernel), List.mem_of_getElem? (i := 930) (by decide +kernel), List.mem_of_getElem? (i := 931) (by decide +kernel)⟩
theorem lw_p85 : lw_okq (⟨"ApronDeskModel", "takes", "(IIIIII)Z"⟩, 35) := ⟨⟨by decide +kernel, by decide +kernel⟩, List.mem_of_getElem? (i := 710) (by decide +kernel), List.mem_of_getElem? (i := 934) (by decide +kernel), List.mem_of_getElem? (i := 935) (by decide +kernel)⟩
theorem lw_p86 : lw_okq (⟨"ApronDeskModel", "isThird", "(IIIII)Z"⟩, 35) := ⟨⟨by decide +kernel, by decide +kernel⟩, List.mem_of_getElem? (i := 710) (by decide +kernel), List.mem_of_getElem? (i := 938) (by decide +kernel), List.mem_of_getElem? (i := 939) (by decide +kernel)⟩
theorem lw_p87 : lw_okq (⟨"ApronDeskModel", "isAgainst", "(I)Z"⟩, 35) := ⟨⟨by decide +kernel, by decide +kernel⟩, List.mem_of_getElem? (i := 710) (by decide +kernel), List.mem_of_getElem? (i := 942) (by decide +kernel), List.mem_of_getElem? (i := 943) (by decide +kernel)⟩
theorem lw_p88 : lw_okq (⟨"ApronDeskModel", "sets", "(IIII)V"⟩, 35) := ⟨⟨by decide +kernel, by decide +kernel⟩, List.mem_of_getElem? (i := 710) (by decide +kernel), List.mem_of_getElem? (i := 946) (by decide +kernel), List.mem_of_getElem? (i := 947) (by decide +kernel)⟩
theorem lw_p89 : lw_okq (⟨"ApronDeskModel", "isPlanned", "(I)Z"⟩, 35) := ⟨⟨by decide +kernel, by decide +kernel⟩, List.mem_of_getElem? (i := 710) (by decide +kernel), List.mem_of_getElem? (i := 970) (by decide +kernel), List.mem_of_getElem? (i := 971) (by decide +kernel)⟩
theorem lw_p90 : lw_okq (⟨"ApronDeskModel", "lines", "(I)V"⟩, 35) := ⟨⟨by decide +kernel, by decide +kernel⟩, List.mem_of_getElem? (i := 710) (by decide +kernel), List.mem_of_getElem? (i := 974) (by decide +kernel), List.mem_of_getElem? (i := 975) (by decide +kernel)⟩
theorem lw_p91 : lw_okq (⟨"ApronDeskModel", "bestOf", "(III)I"⟩, 35) := ⟨⟨by decide +kernel, by decide +kernel⟩, List.mem_of_getElem? (i := 710) (by decide +kernel), List.mem_of_getElem? (i := 978) (by decide +kernel), List.mem_of_getElem? (i := 979) (by decide +kernel)⟩
theorem lw_p92 : lw_okq (⟨"ApronDeskModel", "rank", "(II)I"⟩, 35) := ⟨⟨by decide +kernel, by decide +kernel⟩, List.mem_of_getElem? (i := 710) (by decide +kernel), List.mem_of_getElem? (i := 982) (by decide +kernel), List.mem_of_getElem? (i := 983) (by decide +kernel)⟩
theorem lw_p93 : lw_okq (⟨"ApronDeskModel", "found", "(Z)I"⟩, 35) := ⟨⟨by decide +kernel, by decide +kernel⟩, List.mem_of_getElem? (i := 710) (by decide +kernel), List.mem_of_getElem? (i := 990) (by decide +kernel), List.mem_of_getElem? (i := 991) (by decide +kernel)⟩
theorem lw_p94 : lw_okq (⟨"ApronDeskModel", "search", "(Z)Z"⟩, 35) := ⟨⟨by decide +kernel, by decide +kernel⟩, List.mem_of_getElem? (i := 710) (by decide +kernel), List.mem_of_getElem? (i := 994) (by decide +kernel), List.mem_of_getElem? (i := 995) (by decide +kernel)⟩
theorem lw_p95 : lw_okq (⟨"ApronDeskModel", "whole", "()V"⟩, 35) := ⟨⟨by decide +kernel, by decide +kernel⟩, List.mem_of_getElem? (i := 710) (by decide +kernel), List.mem_of_getElem? (i := 998) (by decide +kernel), List.mem_of_getElem? (i := 999) (by decide +kernel)⟩
def lw_privs_6 : List (MethodName × Nat) := [(⟨"ApronDeskModel", "kindOf", "(I)I"⟩, 35), (⟨"ApronDeskModel", "wingOf", "(I)I"⟩, 35), (⟨"ApronDeskModel", "needOf", "(I)I"⟩, 35), (⟨"ApronDeskModel", "against", "(IIIIIII)I"⟩, 35), (⟨"ApronDeskModel", "isNeighbour", "(IIIII)Z"⟩, 35), (⟨"ApronDeskModel", "takes", "(IIIIII)Z"⟩, 35), (⟨"ApronDeskModel", "isThird", "(IIIII)Z"⟩, 35), (⟨"ApronDeskModel", "isAgainst", "(I)Z"⟩, 35), (⟨"ApronDeskModel", "sets", "(IIII)V"⟩, 35), (⟨"ApronDeskModel", "isPlanned", "(I)Z"⟩, 35), (⟨"ApronDeskModel", "lines", "(I)V"⟩, 35), (⟨"ApronDeskModel", "bestOf", "(III)I"⟩, 35), (⟨"ApronDeskModel", "rank", "(II)I"⟩, 35), (⟨"ApronDeskModel", "found", "(Z)I"⟩, 35), (⟨"ApronDeskModel", "search", "(Z)Z"⟩, 35), (⟨"ApronDeskModel", "whole", "()V"⟩, 35)]
theorem lw_r6 : ∀ q ∈ lw_privs_6, lw_okq q := List.forall_mem_cons.mpr ⟨lw_p80, List.forall_mem_cons.mpr ⟨lw_p81, List.forall_mem_cons.mpr ⟨lw_p82, List.forall_mem_cons.mpr ⟨lw_p83, List.forall_mem_cons.mpr ⟨lw_p84, List.forall_mem_cons.mpr ⟨lw_p85, List.forall_mem_cons.mpr ⟨lw_p86, List.forall_mem_cons.mpr ⟨lw_p87, List.forall_mem_cons.mpr ⟨lw_p88, List.forall_mem_cons.mpr ⟨lw_p89, List.forall_mem_cons.mpr ⟨lw_p90, List.forall_mem_cons.mpr ⟨lw_p91, List.forall_mem_cons.mpr ⟨lw_p92, List.forall_mem_cons.mpr ⟨lw_p93, List.forall_mem_cons.mpr ⟨lw_p94, List.forall_mem_cons.mpr ⟨lw_p95, fun _ h => absurd h List.not_mem_nil⟩⟩⟩⟩⟩⟩⟩⟩⟩⟩⟩⟩⟩⟩⟩⟩
theorem lw_p96 : lw_okq (⟨"ApronDeskModel", "isWaiting", "(I)Z"⟩, 35) := ⟨⟨by decide +kernel, by decide +kernel⟩, List.mem_of_getElem? (i := 710) (by decide +kernel), List.mem_of_getElem? (i := 1018) (by decide +kernel), List.mem_of_getElem? (i := 1019) (by decide +kernel)⟩
def lw_privs_7 : List (MethodName × Nat) := [(⟨"ApronDeskModel", "isWaiting", "(I)Z"⟩, 35)]
theorem lw_r7 : ∀ q ∈ lw_privs_7, lw_okq q := List.forall_mem_cons.mpr ⟨lw_p96, fun _ h => absurd h List.not_mem_nil⟩
def lw_privs : List (MethodName × Nat) := lw_privs_1 ++ (lw_privs_2 ++ (lw_privs_3 ++ (lw_privs_4 ++ (lw_privs_5 ++ (lw_privs_6 ++ (lw_privs_7))))))
def lw_tbl : List Cond := k2_sels lw_privs ++ tables_1
theorem lw_privs_ok : ∀ q ∈ lw_privs, lw_okq q := by
  show ∀ q ∈ lw_privs_1 ++ (lw_privs_2 ++ (lw_privs_3 ++ (lw_privs_4 ++ (lw_privs_5 ++ (lw_privs_6 ++ (lw_privs_7)))))), lw_okq q
  exact List.forall_mem_append.mpr ⟨lw_r1, List.forall_mem_append.mpr ⟨lw_r2, List.forall_mem_append.mpr ⟨lw_r3, List.forall_mem_append.mpr ⟨lw_r4, List.forall_mem_append.mpr ⟨lw_r5, List.forall_mem_append.mpr ⟨lw_r6, lw_r7⟩⟩⟩⟩⟩⟩
end
section
def RX0 : String := "ApronDesk$Delay"
def TX0 : u_T := fun k => match k with
  | 0 => ("ApronDesk$Delay", "visits", "LApronDesk$Visits;", true)
  | 1 => ("ApronDesk$Delay", "judge", "LApronDesk$Judge;", true)
  | 2 => ("ApronDesk$Delay", "movers", "LApronDesk$Line;", true)
  | 3 => ("ApronDesk$Delay", "bent", "LApronDesk$Line;", true)
  | _ => ("ApronDesk$Delay", "formerStands", "[I", true)
def tyX0 : Nat → FieldType := fun k => match k with
  | 0 => .object "ApronDesk$Visits"
  | 1 => .object "ApronDesk$Judge"
  | 2 => .object "ApronDesk$Line"
  | 3 => .object "ApronDesk$Line"
  | _ => .array .int
abbrev wsX00 : List Cond := u_ws RX0 TX0 5
theorem nmX0 : ∀ a, a < 5 → ∀ b, b < 5 → a ≠ b → (TX0 a).2.1 ≠ (TX0 b).2.1 := by decide +kernel
theorem tyX0_ok : ∀ k, k < 5 → parseFieldDescriptor (TX0 k).2.2.1 = some (tyX0 k) := by decide +kernel
abbrev cX0_init : ByteArray := prog_2_method_1_code
def yX0_init : MethodName := ⟨RX0, "<init>", "(LApronDesk$Visits;LApronDesk$Judge;)V"⟩
abbrev cX0_makeRoom : ByteArray := prog_2_method_2_code
def yX0_makeRoom : MethodName := ⟨RX0, "makeRoom", "(II)I"⟩
abbrev cX0_canGo : ByteArray := prog_2_method_3_code
def yX0_canGo : MethodName := ⟨RX0, "canGo", "(I)Z"⟩
abbrev cX0_bend : ByteArray := prog_2_method_4_code
def yX0_bend : MethodName := ⟨RX0, "bend", "(II)I"⟩
abbrev cX0_takeMoversOff : ByteArray := prog_2_method_5_code
def yX0_takeMoversOff : MethodName := ⟨RX0, "takeMoversOff", "()V"⟩
def RX1 : String := "ApronDesk$Ground"
def TX1 : u_T := fun k => match k with
  | 0 => ("ApronDesk$Ground", "kinds", "[I", true)
  | 1 => ("ApronDesk$Ground", "sizes", "[I", true)
  | 2 => ("ApronDesk$Ground", "pairA", "[I", true)
  | 3 => ("ApronDesk$Ground", "pairB", "[I", true)
  | 4 => ("ApronDesk$Ground", "limitsA", "[I", true)
  | 5 => ("ApronDesk$Ground", "limitsB", "[I", true)
  | 6 => ("ApronDesk$Ground", "coneStands", "[I", true)
  | 7 => ("ApronDesk$Ground", "coneFroms", "[I", true)
  | 8 => ("ApronDesk$Ground", "coneEnds", "[I", true)
  | 9 => ("ApronDesk$Ground", "stands", "I", false)
  | 10 => ("ApronDesk$Ground", "pairs", "I", false)
  | _ => ("ApronDesk$Ground", "cones", "I", false)
def tyX1 : Nat → FieldType := fun k => match k with
  | 0 => .array .int
  | 1 => .array .int
  | 2 => .array .int
  | 3 => .array .int
  | 4 => .array .int
  | 5 => .array .int
  | 6 => .array .int
  | 7 => .array .int
  | 8 => .array .int
  | 9 => .int
  | 10 => .int
  | _ => .int
abbrev wsX10 : List Cond := u_ws RX1 TX1 12
theorem nmX1 : ∀ a, a < 12 → ∀ b, b < 12 → a ≠ b → (TX1 a).2.1 ≠ (TX1 b).2.1 := by decide +kernel
theorem tyX1_ok : ∀ k, k < 12 → parseFieldDescriptor (TX1 k).2.2.1 = some (tyX1 k) := by decide +kernel
abbrev cX1_init : ByteArray := prog_3_method_1_code
def yX1_init : MethodName := ⟨RX1, "<init>", "()V"⟩
abbrev cX1_hasStand : ByteArray := prog_3_method_2_code
def yX1_hasStand : MethodName := ⟨RX1, "hasStand", "(I)Z"⟩
abbrev cX1_addStand : ByteArray := prog_3_method_3_code
def yX1_addStand : MethodName := ⟨RX1, "addStand", "(II)I"⟩
abbrev cX1_addPair : ByteArray := prog_3_method_4_code
def yX1_addPair : MethodName := ⟨RX1, "addPair", "(IIII)I"⟩
abbrev cX1_addCone : ByteArray := prog_3_method_5_code
def yX1_addCone : MethodName := ⟨RX1, "addCone", "(III)I"⟩
abbrev cX1_hasGate : ByteArray := prog_3_method_6_code
def yX1_hasGate : MethodName := ⟨RX1, "hasGate", "(I)Z"⟩
abbrev cX1_halfOf : ByteArray := prog_3_method_7_code
def yX1_halfOf : MethodName := ⟨RX1, "halfOf", "(I)I"⟩
abbrev cX1_areTooNear : ByteArray := prog_3_method_8_code
def yX1_areTooNear : MethodName := ⟨RX1, "areTooNear", "(IIII)Z"⟩
abbrev cX1_firstCone : ByteArray := prog_3_method_9_code
def yX1_firstCone : MethodName := ⟨RX1, "firstCone", "(III)I"⟩
def RX2 : String := "ApronDesk$Judge"
def TX2 : u_T := fun k => match k with
  | 0 => ("ApronDesk$Judge", "apron", "LApronDesk$Ground;", true)
  | 1 => ("ApronDesk$Judge", "visits", "LApronDesk$Visits;", true)
  | 2 => ("ApronDesk$Judge", "away", "[Z", true)
  | 3 => ("ApronDesk$Judge", "self", "I", false)
  | 4 => ("ApronDesk$Judge", "kind", "I", false)
  | 5 => ("ApronDesk$Judge", "wing", "I", false)
  | 6 => ("ApronDesk$Judge", "need", "I", false)
  | _ => ("ApronDesk$Judge", "by", "I", false)
def tyX2 : Nat → FieldType := fun k => match k with
  | 0 => .object "ApronDesk$Ground"
  | 1 => .object "ApronDesk$Visits"
  | 2 => .array .boolean
  | 3 => .int
  | 4 => .int
  | 5 => .int
  | 6 => .int
  | _ => .int
abbrev wsX20 : List Cond := u_ws RX2 TX2 8
theorem nmX2 : ∀ a, a < 8 → ∀ b, b < 8 → a ≠ b → (TX2 a).2.1 ≠ (TX2 b).2.1 := by decide +kernel
theorem tyX2_ok : ∀ k, k < 8 → parseFieldDescriptor (TX2 k).2.2.1 = some (tyX2 k) := by decide +kernel
abbrev cX2_init : ByteArray := prog_4_method_1_code
def yX2_init : MethodName := ⟨RX2, "<init>", "(LApronDesk$Ground;LApronDesk$Visits;)V"⟩
abbrev cX2_sendAway : ByteArray := prog_4_method_2_code
def yX2_sendAway : MethodName := ⟨RX2, "sendAway", "(I)V"⟩
abbrev cX2_callAllBack : ByteArray := prog_4_method_3_code
def yX2_callAllBack : MethodName := ⟨RX2, "callAllBack", "()V"⟩
abbrev cX2_regard : ByteArray := prog_4_method_4_code
def yX2_regard : MethodName := ⟨RX2, "regard", "(I)V"⟩
abbrev cX2_regardPlane : ByteArray := prog_4_method_5_code
def yX2_regardPlane : MethodName := ⟨RX2, "regardPlane", "(I)V"⟩
abbrev cX2_bestStand : ByteArray := prog_4_method_6_code
def yX2_bestStand : MethodName := ⟨RX2, "bestStand", "(II)I"⟩
abbrev cX2_against : ByteArray := prog_4_method_7_code
def yX2_against : MethodName := ⟨RX2, "against", "(III)I"⟩
abbrev cX2_isUnfit : ByteArray := prog_4_method_8_code
def yX2_isUnfit : MethodName := ⟨RX2, "isUnfit", "(III)Z"⟩
abbrev cX2_firstNeighbour : ByteArray := prog_4_method_9_code
def yX2_firstNeighbour : MethodName := ⟨RX2, "firstNeighbour", "(III)I"⟩
abbrev cX2_isNeighbour : ByteArray := prog_4_method_10_code
def yX2_isNeighbour : MethodName := ⟨RX2, "isNeighbour", "(IIII)Z"⟩
abbrev cX2_firstTaker : ByteArray := prog_4_method_11_code
def yX2_firstTaker : MethodName := ⟨RX2, "firstTaker", "(III)I"⟩
abbrev cX2_mayShare : ByteArray := prog_4_method_12_code
def yX2_mayShare : MethodName := ⟨RX2, "mayShare", "(II)Z"⟩
abbrev cX2_isThirdThere : ByteArray := prog_4_method_13_code
def yX2_isThirdThere : MethodName := ⟨RX2, "isThirdThere", "(IIII)Z"⟩
abbrev cX2_isOther : ByteArray := prog_4_method_14_code
def yX2_isOther : MethodName := ⟨RX2, "isOther", "(I)Z"⟩
def RX3 : String := "ApronDesk$Line"
def TX3 : u_T := fun k => match k with
  | 0 => ("ApronDesk$Line", "members", "[I", true)
  | _ => ("ApronDesk$Line", "length", "I", false)
def tyX3 : Nat → FieldType := fun k => match k with
  | 0 => .array .int
  | _ => .int
abbrev wsX30 : List Cond := u_ws RX3 TX3 2
theorem nmX3 : ∀ a, a < 2 → ∀ b, b < 2 → a ≠ b → (TX3 a).2.1 ≠ (TX3 b).2.1 := by decide +kernel
theorem tyX3_ok : ∀ k, k < 2 → parseFieldDescriptor (TX3 k).2.2.1 = some (tyX3 k) := by decide +kernel
abbrev cX3_init : ByteArray := prog_5_method_1_code
def yX3_init : MethodName := ⟨RX3, "<init>", "()V"⟩
abbrev cX3_empty : ByteArray := prog_5_method_2_code
def yX3_empty : MethodName := ⟨RX3, "empty", "()V"⟩
abbrev cX3_memberAt : ByteArray := prog_5_method_3_code
def yX3_memberAt : MethodName := ⟨RX3, "memberAt", "(I)I"⟩
abbrev cX3_join : ByteArray := prog_5_method_4_code
def yX3_join : MethodName := ⟨RX3, "join", "(I)V"⟩
abbrev cX3_joinByIn : ByteArray := prog_5_method_5_code
def yX3_joinByIn : MethodName := ⟨RX3, "joinByIn", "(ILApronDesk$Visits;)V"⟩
def RX4 : String := "ApronDesk$Searcher"
def TX4 : u_T := fun k => match k with
  | 0 => ("ApronDesk$Searcher", "apron", "LApronDesk$Ground;", true)
  | 1 => ("ApronDesk$Searcher", "visits", "LApronDesk$Visits;", true)
  | 2 => ("ApronDesk$Searcher", "judge", "LApronDesk$Judge;", true)
  | 3 => ("ApronDesk$Searcher", "line", "LApronDesk$Line;", true)
  | 4 => ("ApronDesk$Searcher", "choices", "[I", true)
  | 5 => ("ApronDesk$Searcher", "bestChoices", "[I", true)
  | 6 => ("ApronDesk$Searcher", "depth", "I", false)
  | 7 => ("ApronDesk$Searcher", "tries", "I", false)
  | _ => ("ApronDesk$Searcher", "bestScore", "I", false)
def tyX4 : Nat → FieldType := fun k => match k with
  | 0 => .object "ApronDesk$Ground"
  | 1 => .object "ApronDesk$Visits"
  | 2 => .object "ApronDesk$Judge"
  | 3 => .object "ApronDesk$Line"
  | 4 => .array .int
  | 5 => .array .int
  | 6 => .int
  | 7 => .int
  | _ => .int
abbrev wsX40 : List Cond := u_ws RX4 TX4 9
theorem nmX4 : ∀ a, a < 9 → ∀ b, b < 9 → a ≠ b → (TX4 a).2.1 ≠ (TX4 b).2.1 := by decide +kernel
theorem tyX4_ok : ∀ k, k < 9 → parseFieldDescriptor (TX4 k).2.2.1 = some (tyX4 k) := by decide +kernel
abbrev cX4_init : ByteArray := prog_6_method_1_code
def yX4_init : MethodName := ⟨RX4, "<init>", "(LApronDesk$Ground;LApronDesk$Visits;LApronDesk$Judge;)V"⟩
abbrev cX4_takeFirst : ByteArray := prog_6_method_2_code
def yX4_takeFirst : MethodName := ⟨RX4, "takeFirst", "()I"⟩
abbrev cX4_takeBest : ByteArray := prog_6_method_3_code
def yX4_takeBest : MethodName := ⟨RX4, "takeBest", "()I"⟩
abbrev cX4_begin : ByteArray := prog_6_method_4_code
def yX4_begin : MethodName := ⟨RX4, "begin", "()V"⟩
abbrev cX4_goToNextWhole : ByteArray := prog_6_method_5_code
def yX4_goToNextWhole : MethodName := ⟨RX4, "goToNextWhole", "()I"⟩
abbrev cX4_keepIfBetter : ByteArray := prog_6_method_6_code
def yX4_keepIfBetter : MethodName := ⟨RX4, "keepIfBetter", "()V"⟩
abbrev cX4_putBest : ByteArray := prog_6_method_7_code
def yX4_putBest : MethodName := ⟨RX4, "putBest", "()V"⟩
abbrev cX4_takeAllOff : ByteArray := prog_6_method_8_code
def yX4_takeAllOff : MethodName := ⟨RX4, "takeAllOff", "()V"⟩
def RX5 : String := "ApronDesk$Visits"
def TX5 : u_T := fun k => match k with
  | 0 => ("ApronDesk$Visits", "rows", "[I", true)
  | 1 => ("ApronDesk$Visits", "lengths", "[I", true)
  | 2 => ("ApronDesk$Visits", "stayCounts", "[I", true)
  | 3 => ("ApronDesk$Visits", "stayStands", "[I", true)
  | 4 => ("ApronDesk$Visits", "stayFroms", "[I", true)
  | 5 => ("ApronDesk$Visits", "stayEnds", "[I", true)
  | 6 => ("ApronDesk$Visits", "size", "I", false)
  | _ => ("ApronDesk$Visits", "now", "I", false)
def tyX5 : Nat → FieldType := fun k => match k with
  | 0 => .array .int
  | 1 => .array .int
  | 2 => .array .int
  | 3 => .array .int
  | 4 => .array .int
  | 5 => .array .int
  | 6 => .int
  | _ => .int
abbrev wsX50 : List Cond := u_ws RX5 TX5 8
theorem nmX5 : ∀ a, a < 8 → ∀ b, b < 8 → a ≠ b → (TX5 a).2.1 ≠ (TX5 b).2.1 := by decide +kernel
theorem tyX5_ok : ∀ k, k < 8 → parseFieldDescriptor (TX5 k).2.2.1 = some (tyX5 k) := by decide +kernel
abbrev cX5_init : ByteArray := prog_7_method_1_code
def yX5_init : MethodName := ⟨RX5, "<init>", "()V"⟩
abbrev cX5_has : ByteArray := prog_7_method_2_code
def yX5_has : MethodName := ⟨RX5, "has", "(I)Z"⟩
abbrev cX5_add : ByteArray := prog_7_method_3_code
def yX5_add : MethodName := ⟨RX5, "add", "(IIIII)I"⟩
abbrev cX5_kindOf : ByteArray := prog_7_method_4_code
def yX5_kindOf : MethodName := ⟨RX5, "kindOf", "(I)I"⟩
abbrev cX5_wingOf : ByteArray := prog_7_method_5_code
def yX5_wingOf : MethodName := ⟨RX5, "wingOf", "(I)I"⟩
abbrev cX5_inOf : ByteArray := prog_7_method_6_code
def yX5_inOf : MethodName := ⟨RX5, "inOf", "(I)I"⟩
abbrev cX5_outOf : ByteArray := prog_7_method_7_code
def yX5_outOf : MethodName := ⟨RX5, "outOf", "(I)I"⟩
abbrev cX5_needOf : ByteArray := prog_7_method_8_code
def yX5_needOf : MethodName := ⟨RX5, "needOf", "(I)I"⟩
abbrev cX5_isUnknown : ByteArray := prog_7_method_9_code
def yX5_isUnknown : MethodName := ⟨RX5, "isUnknown", "(I)Z"⟩
abbrev cX5_hasBegun : ByteArray := prog_7_method_10_code
def yX5_hasBegun : MethodName := ⟨RX5, "hasBegun", "(I)Z"⟩
abbrev cX5_isPut : ByteArray := prog_7_method_11_code
def yX5_isPut : MethodName := ⟨RX5, "isPut", "(I)Z"⟩
abbrev cX5_isToCome : ByteArray := prog_7_method_12_code
def yX5_isToCome : MethodName := ⟨RX5, "isToCome", "(I)Z"⟩
abbrev cX5_isWaiting : ByteArray := prog_7_method_13_code
def yX5_isWaiting : MethodName := ⟨RX5, "isWaiting", "(I)Z"⟩
abbrev cX5_standOf : ByteArray := prog_7_method_14_code
def yX5_standOf : MethodName := ⟨RX5, "standOf", "(II)I"⟩
abbrev cX5_fromOf : ByteArray := prog_7_method_15_code
def yX5_fromOf : MethodName := ⟨RX5, "fromOf", "(II)I"⟩
abbrev cX5_endOf : ByteArray := prog_7_method_16_code
def yX5_endOf : MethodName := ⟨RX5, "endOf", "(II)I"⟩
abbrev cX5_isStayAt : ByteArray := prog_7_method_17_code
def yX5_isStayAt : MethodName := ⟨RX5, "isStayAt", "(IIIII)Z"⟩
abbrev cX5_isThere : ByteArray := prog_7_method_18_code
def yX5_isThere : MethodName := ⟨RX5, "isThere", "(IIII)Z"⟩
abbrev cX5_place : ByteArray := prog_7_method_19_code
def yX5_place : MethodName := ⟨RX5, "place", "(III)Z"⟩
abbrev cX5_addStay : ByteArray := prog_7_method_20_code
def yX5_addStay : MethodName := ⟨RX5, "addStay", "(III)V"⟩
abbrev cX5_endLastStay : ByteArray := prog_7_method_21_code
def yX5_endLastStay : MethodName := ⟨RX5, "endLastStay", "(II)V"⟩
abbrev cX5_moveFirstStay : ByteArray := prog_7_method_22_code
def yX5_moveFirstStay : MethodName := ⟨RX5, "moveFirstStay", "(II)V"⟩
abbrev cX5_takeOff : ByteArray := prog_7_method_23_code
def yX5_takeOff : MethodName := ⟨RX5, "takeOff", "(I)V"⟩
abbrev cX5_makeLate : ByteArray := prog_7_method_24_code
def yX5_makeLate : MethodName := ⟨RX5, "makeLate", "(II)V"⟩
def RX6 : String := "ApronDesk"
def TX6 : u_T := fun k => match k with
  | 0 => ("ApronDesk", "apron", "LApronDesk$Ground;", true)
  | 1 => ("ApronDesk", "visits", "LApronDesk$Visits;", true)
  | 2 => ("ApronDesk", "judge", "LApronDesk$Judge;", true)
  | 3 => ("ApronDesk", "searcher", "LApronDesk$Searcher;", true)
  | 4 => ("ApronDesk", "delay", "LApronDesk$Delay;", true)
  | 5 => ("ApronDesk", "line", "LApronDesk$Line;", true)
  | 6 => ("ApronDesk", "towMinutes", "I", false)
  | 7 => ("ApronDesk", "lastStatus", "I", false)
  | 8 => ("ApronDesk", "lastReason", "I", false)
  | _ => ("ApronDesk", "lastAgainst", "I", false)
def tyX6 : Nat → FieldType := fun k => match k with
  | 0 => .object "ApronDesk$Ground"
  | 1 => .object "ApronDesk$Visits"
  | 2 => .object "ApronDesk$Judge"
  | 3 => .object "ApronDesk$Searcher"
  | 4 => .object "ApronDesk$Delay"
  | 5 => .object "ApronDesk$Line"
  | 6 => .int
  | 7 => .int
  | 8 => .int
  | _ => .int
abbrev wsX60 : List Cond := u_ws RX6 TX6 10
theorem nmX6 : ∀ a, a < 10 → ∀ b, b < 10 → a ≠ b → (TX6 a).2.1 ≠ (TX6 b).2.1 := by decide +kernel
theorem tyX6_ok : ∀ k, k < 10 → parseFieldDescriptor (TX6 k).2.2.1 = some (tyX6 k) := by decide +kernel
abbrev cX6_init : ByteArray := prog_1_method_1_code
def yX6_init : MethodName := ⟨RX6, "<init>", "()V"⟩
abbrev cX6_status : ByteArray := prog_1_method_2_code
def yX6_status : MethodName := ⟨RX6, "status", "()I"⟩
abbrev cX6_reason : ByteArray := prog_1_method_3_code
def yX6_reason : MethodName := ⟨RX6, "reason", "(I)I"⟩
abbrev cX6_stand : ByteArray := prog_1_method_4_code
def yX6_stand : MethodName := ⟨RX6, "stand", "(II)I"⟩
abbrev cX6_ground : ByteArray := prog_1_method_5_code
def yX6_ground : MethodName := ⟨RX6, "ground", "(II)I"⟩
abbrev cX6_near : ByteArray := prog_1_method_6_code
def yX6_near : MethodName := ⟨RX6, "near", "(IIII)I"⟩
abbrev cX6_cone : ByteArray := prog_1_method_7_code
def yX6_cone : MethodName := ⟨RX6, "cone", "(III)I"⟩
abbrev cX6_towtime : ByteArray := prog_1_method_8_code
def yX6_towtime : MethodName := ⟨RX6, "towtime", "(I)Z"⟩
abbrev cX6_visit : ByteArray := prog_1_method_9_code
def yX6_visit : MethodName := ⟨RX6, "visit", "(IIIII)I"⟩
abbrev cX6_tear : ByteArray := prog_1_method_10_code
def yX6_tear : MethodName := ⟨RX6, "tear", "(II)Z"⟩
abbrev cX6_told : ByteArray := prog_1_method_11_code
def yX6_told : MethodName := ⟨RX6, "told", "(II)I"⟩
abbrev cX6_put : ByteArray := prog_1_method_12_code
def yX6_put : MethodName := ⟨RX6, "put", "(II)Z"⟩
abbrev cX6_why : ByteArray := prog_1_method_13_code
def yX6_why : MethodName := ⟨RX6, "why", "(II)I"⟩
abbrev cX6_off : ByteArray := prog_1_method_14_code
def yX6_off : MethodName := ⟨RX6, "off", "(I)Z"⟩
abbrev cX6_tow : ByteArray := prog_1_method_15_code
def yX6_tow : MethodName := ⟨RX6, "tow", "(III)Z"⟩
abbrev cX6_plan : ByteArray := prog_1_method_16_code
def yX6_plan : MethodName := ⟨RX6, "plan", "()I"⟩
abbrev cX6_search : ByteArray := prog_1_method_17_code
def yX6_search : MethodName := ⟨RX6, "search", "()I"⟩
abbrev cX6_most : ByteArray := prog_1_method_18_code
def yX6_most : MethodName := ⟨RX6, "most", "()I"⟩
abbrev cX6_late : ByteArray := prog_1_method_19_code
def yX6_late : MethodName := ⟨RX6, "late", "(II)I"⟩
abbrev cX6_changed : ByteArray := prog_1_method_20_code
def yX6_changed : MethodName := ⟨RX6, "changed", "(I)I"⟩
abbrev cX6_now : ByteArray := prog_1_method_21_code
def yX6_now : MethodName := ⟨RX6, "now", "(I)I"⟩
abbrev cX6_waiting : ByteArray := prog_1_method_22_code
def yX6_waiting : MethodName := ⟨RX6, "waiting", "()I"⟩
abbrev cX6_swap : ByteArray := prog_1_method_23_code
def yX6_swap : MethodName := ⟨RX6, "swap", "(II)Z"⟩
abbrev cX6_stays : ByteArray := prog_1_method_24_code
def yX6_stays : MethodName := ⟨RX6, "stays", "(I)I"⟩
abbrev cX6_stay : ByteArray := prog_1_method_25_code
def yX6_stay : MethodName := ⟨RX6, "stay", "(III)I"⟩
abbrev cX6_at : ByteArray := prog_1_method_26_code
def yX6_at : MethodName := ⟨RX6, "at", "(III)I"⟩
abbrev cX6_crowd : ByteArray := prog_1_method_27_code
def yX6_crowd : MethodName := ⟨RX6, "crowd", "(III)I"⟩
abbrev cX6_faultOfLooking : ByteArray := prog_1_method_28_code
def yX6_faultOfLooking : MethodName := ⟨RX6, "faultOfLooking", "(II)I"⟩
abbrev cX6_faultOfPutting : ByteArray := prog_1_method_29_code
def yX6_faultOfPutting : MethodName := ⟨RX6, "faultOfPutting", "(II)I"⟩
abbrev cX6_faultOfTowing : ByteArray := prog_1_method_30_code
def yX6_faultOfTowing : MethodName := ⟨RX6, "faultOfTowing", "(III)I"⟩
abbrev cX6_faultOfSwapping : ByteArray := prog_1_method_31_code
def yX6_faultOfSwapping : MethodName := ⟨RX6, "faultOfSwapping", "(II)I"⟩
abbrev cX6_serveLine : ByteArray := prog_1_method_32_code
def yX6_serveLine : MethodName := ⟨RX6, "serveLine", "()I"⟩
abbrev cX6_isHindered : ByteArray := prog_1_method_33_code
def yX6_isHindered : MethodName := ⟨RX6, "isHindered", "(IIII)Z"⟩
abbrev cX6_keepReason : ByteArray := prog_1_method_34_code
def yX6_keepReason : MethodName := ⟨RX6, "keepReason", "(I)V"⟩
abbrev cX6_grant : ByteArray := prog_1_method_35_code
def yX6_grant : MethodName := ⟨RX6, "grant", "(I)I"⟩
abbrev cX6_allow : ByteArray := prog_1_method_36_code
def yX6_allow : MethodName := ⟨RX6, "allow", "()Z"⟩
abbrev cX6_refuse : ByteArray := prog_1_method_37_code
def yX6_refuse : MethodName := ⟨RX6, "refuse", "(I)I"⟩
abbrev cX6_deny : ByteArray := prog_1_method_38_code
def yX6_deny : MethodName := ⟨RX6, "deny", "(I)Z"⟩
abbrev cX6_isWithin : ByteArray := prog_1_method_39_code
def yX6_isWithin : MethodName := ⟨RX6, "isWithin", "(III)Z"⟩
abbrev cX6_isSpan : ByteArray := prog_1_method_40_code
def yX6_isSpan : MethodName := ⟨RX6, "isSpan", "(II)Z"⟩
abbrev cX6_haveCommonMinute : ByteArray := prog_1_method_41_code
def yX6_haveCommonMinute : MethodName := ⟨RX6, "haveCommonMinute", "(IIII)Z"⟩
def RX7 : String := "ApronDeskModel"
def TX7 : u_T := fun k => match k with
  | 0 => ("ApronDeskModel", "status", "I", false)
  | 1 => ("ApronDeskModel", "reason", "I", false)
  | 2 => ("ApronDeskModel", "by", "I", false)
  | 3 => ("ApronDeskModel", "standMany", "I", false)
  | 4 => ("ApronDeskModel", "pairMany", "I", false)
  | 5 => ("ApronDeskModel", "coneMany", "I", false)
  | 6 => ("ApronDeskModel", "visitMany", "I", false)
  | 7 => ("ApronDeskModel", "towtime", "I", false)
  | 8 => ("ApronDeskModel", "now", "I", false)
  | 9 => ("ApronDeskModel", "standKind", "[I", true)
  | 10 => ("ApronDeskModel", "standSize", "[I", true)
  | 11 => ("ApronDeskModel", "pairA", "[I", true)
  | 12 => ("ApronDeskModel", "pairB", "[I", true)
  | 13 => ("ApronDeskModel", "limitA", "[I", true)
  | 14 => ("ApronDeskModel", "limitB", "[I", true)
  | 15 => ("ApronDeskModel", "coneStand", "[I", true)
  | 16 => ("ApronDeskModel", "coneFrom", "[I", true)
  | 17 => ("ApronDeskModel", "coneTo", "[I", true)
  | 18 => ("ApronDeskModel", "numbers", "[I", true)
  | 19 => ("ApronDeskModel", "row", "[I", true)
  | 20 => ("ApronDeskModel", "stayMany", "[I", true)
  | 21 => ("ApronDeskModel", "stayStand", "[I", true)
  | 22 => ("ApronDeskModel", "stayFrom", "[I", true)
  | 23 => ("ApronDeskModel", "stayTo", "[I", true)
  | 24 => ("ApronDeskModel", "foundBy", "I", false)
  | 25 => ("ApronDeskModel", "list", "[I", true)
  | 26 => ("ApronDeskModel", "listMany", "I", false)
  | 27 => ("ApronDeskModel", "tried", "[I", true)
  | 28 => ("ApronDeskModel", "best", "[I", true)
  | 29 => ("ApronDeskModel", "tries", "I", false)
  | 30 => ("ApronDeskModel", "bestCount", "I", false)
  | 31 => ("ApronDeskModel", "wasMany", "[I", true)
  | 32 => ("ApronDeskModel", "firstStand", "[I", true)
  | 33 => ("ApronDeskModel", "changes", "[I", true)
  | _ => ("ApronDeskModel", "changeMany", "I", false)
def tyX7 : Nat → FieldType := fun k => match k with
  | 0 => .int
  | 1 => .int
  | 2 => .int
  | 3 => .int
  | 4 => .int
  | 5 => .int
  | 6 => .int
  | 7 => .int
  | 8 => .int
  | 9 => .array .int
  | 10 => .array .int
  | 11 => .array .int
  | 12 => .array .int
  | 13 => .array .int
  | 14 => .array .int
  | 15 => .array .int
  | 16 => .array .int
  | 17 => .array .int
  | 18 => .array .int
  | 19 => .array .int
  | 20 => .array .int
  | 21 => .array .int
  | 22 => .array .int
  | 23 => .array .int
  | 24 => .int
  | 25 => .array .int
  | 26 => .int
  | 27 => .array .int
  | 28 => .array .int
  | 29 => .int
  | 30 => .int
  | 31 => .array .int
  | 32 => .array .int
  | 33 => .array .int
  | _ => .int
abbrev wsX70 : List Cond := u_ws RX7 TX7 35
theorem nmX7 : ∀ a, a < 35 → ∀ b, b < 35 → a ≠ b → (TX7 a).2.1 ≠ (TX7 b).2.1 := by decide +kernel
theorem tyX7_ok : ∀ k, k < 35 → parseFieldDescriptor (TX7 k).2.2.1 = some (tyX7 k) := by decide +kernel
abbrev cX7_init : ByteArray := prog_9_method_1_code
def yX7_init : MethodName := ⟨RX7, "<init>", "()V"⟩
abbrev cX7_status : ByteArray := prog_9_method_2_code
def yX7_status : MethodName := ⟨RX7, "status", "()I"⟩
abbrev cX7_reason : ByteArray := prog_9_method_3_code
def yX7_reason : MethodName := ⟨RX7, "reason", "(I)I"⟩
abbrev cX7_refuse : ByteArray := prog_9_method_4_code
def yX7_refuse : MethodName := ⟨RX7, "refuse", "(I)I"⟩
abbrev cX7_gives : ByteArray := prog_9_method_5_code
def yX7_gives : MethodName := ⟨RX7, "gives", "(I)I"⟩
abbrev cX7_isStand : ByteArray := prog_9_method_6_code
def yX7_isStand : MethodName := ⟨RX7, "isStand", "(I)Z"⟩
abbrev cX7_isVisit : ByteArray := prog_9_method_7_code
def yX7_isVisit : MethodName := ⟨RX7, "isVisit", "(I)Z"⟩
abbrev cX7_stand : ByteArray := prog_9_method_8_code
def yX7_stand : MethodName := ⟨RX7, "stand", "(II)I"⟩
abbrev cX7_ground : ByteArray := prog_9_method_9_code
def yX7_ground : MethodName := ⟨RX7, "ground", "(II)I"⟩
abbrev cX7_near : ByteArray := prog_9_method_10_code
def yX7_near : MethodName := ⟨RX7, "near", "(IIII)I"⟩
abbrev cX7_isSpan : ByteArray := prog_9_method_11_code
def yX7_isSpan : MethodName := ⟨RX7, "isSpan", "(II)Z"⟩
abbrev cX7_cone : ByteArray := prog_9_method_12_code
def yX7_cone : MethodName := ⟨RX7, "cone", "(III)I"⟩
abbrev cX7_towtime : ByteArray := prog_9_method_13_code
def yX7_towtime : MethodName := ⟨RX7, "towtime", "(I)Z"⟩
abbrev cX7_visit : ByteArray := prog_9_method_14_code
def yX7_visit : MethodName := ⟨RX7, "visit", "(IIIII)I"⟩
abbrev cX7_tear : ByteArray := prog_9_method_15_code
def yX7_tear : MethodName := ⟨RX7, "tear", "(II)Z"⟩
abbrev cX7_told : ByteArray := prog_9_method_16_code
def yX7_told : MethodName := ⟨RX7, "told", "(II)I"⟩
abbrev cX7_kindOf : ByteArray := prog_9_method_17_code
def yX7_kindOf : MethodName := ⟨RX7, "kindOf", "(I)I"⟩
abbrev cX7_wingOf : ByteArray := prog_9_method_18_code
def yX7_wingOf : MethodName := ⟨RX7, "wingOf", "(I)I"⟩
abbrev cX7_inOf : ByteArray := prog_9_method_19_code
def yX7_inOf : MethodName := ⟨RX7, "inOf", "(I)I"⟩
abbrev cX7_outOf : ByteArray := prog_9_method_20_code
def yX7_outOf : MethodName := ⟨RX7, "outOf", "(I)I"⟩
abbrev cX7_needOf : ByteArray := prog_9_method_21_code
def yX7_needOf : MethodName := ⟨RX7, "needOf", "(I)I"⟩
abbrev cX7_isUnknown : ByteArray := prog_9_method_22_code
def yX7_isUnknown : MethodName := ⟨RX7, "isUnknown", "(I)Z"⟩
abbrev cX7_isPut : ByteArray := prog_9_method_23_code
def yX7_isPut : MethodName := ⟨RX7, "isPut", "(I)Z"⟩
abbrev cX7_hasBegun : ByteArray := prog_9_method_24_code
def yX7_hasBegun : MethodName := ⟨RX7, "hasBegun", "(I)Z"⟩
abbrev cX7_haveCommon : ByteArray := prog_9_method_25_code
def yX7_haveCommon : MethodName := ⟨RX7, "haveCommon", "(IIII)Z"⟩
abbrev cX7_against : ByteArray := prog_9_method_26_code
def yX7_against : MethodName := ⟨RX7, "against", "(IIIIIII)I"⟩
abbrev cX7_isNeighbour : ByteArray := prog_9_method_27_code
def yX7_isNeighbour : MethodName := ⟨RX7, "isNeighbour", "(IIIII)Z"⟩
abbrev cX7_takes : ByteArray := prog_9_method_28_code
def yX7_takes : MethodName := ⟨RX7, "takes", "(IIIIII)Z"⟩
abbrev cX7_isThird : ByteArray := prog_9_method_29_code
def yX7_isThird : MethodName := ⟨RX7, "isThird", "(IIIII)Z"⟩
abbrev cX7_againstOf : ByteArray := prog_9_method_30_code
def yX7_againstOf : MethodName := ⟨RX7, "againstOf", "(IIII)I"⟩
abbrev cX7_isAgainst : ByteArray := prog_9_method_31_code
def yX7_isAgainst : MethodName := ⟨RX7, "isAgainst", "(I)Z"⟩
abbrev cX7_rank : ByteArray := prog_9_method_32_code
def yX7_rank : MethodName := ⟨RX7, "rank", "(II)I"⟩
abbrev cX7_bestOf : ByteArray := prog_9_method_33_code
def yX7_bestOf : MethodName := ⟨RX7, "bestOf", "(III)I"⟩
abbrev cX7_sets : ByteArray := prog_9_method_34_code
def yX7_sets : MethodName := ⟨RX7, "sets", "(IIII)V"⟩
abbrev cX7_put : ByteArray := prog_9_method_35_code
def yX7_put : MethodName := ⟨RX7, "put", "(II)Z"⟩
abbrev cX7_why : ByteArray := prog_9_method_36_code
def yX7_why : MethodName := ⟨RX7, "why", "(II)I"⟩
abbrev cX7_off : ByteArray := prog_9_method_37_code
def yX7_off : MethodName := ⟨RX7, "off", "(I)Z"⟩
abbrev cX7_tow : ByteArray := prog_9_method_38_code
def yX7_tow : MethodName := ⟨RX7, "tow", "(III)Z"⟩
abbrev cX7_swap : ByteArray := prog_9_method_39_code
def yX7_swap : MethodName := ⟨RX7, "swap", "(II)Z"⟩
abbrev cX7_lines : ByteArray := prog_9_method_40_code
def yX7_lines : MethodName := ⟨RX7, "lines", "(I)V"⟩
abbrev cX7_isPlanned : ByteArray := prog_9_method_41_code
def yX7_isPlanned : MethodName := ⟨RX7, "isPlanned", "(I)Z"⟩
abbrev cX7_plan : ByteArray := prog_9_method_42_code
def yX7_plan : MethodName := ⟨RX7, "plan", "()I"⟩
abbrev cX7_search : ByteArray := prog_9_method_43_code
def yX7_search : MethodName := ⟨RX7, "search", "(Z)Z"⟩
abbrev cX7_whole : ByteArray := prog_9_method_44_code
def yX7_whole : MethodName := ⟨RX7, "whole", "()V"⟩
abbrev cX7_found : ByteArray := prog_9_method_45_code
def yX7_found : MethodName := ⟨RX7, "found", "(Z)I"⟩
abbrev cX7_search_ : ByteArray := prog_9_method_46_code
def yX7_search_ : MethodName := ⟨RX7, "search", "()I"⟩
abbrev cX7_most : ByteArray := prog_9_method_47_code
def yX7_most : MethodName := ⟨RX7, "most", "()I"⟩
abbrev cX7_late : ByteArray := prog_9_method_48_code
def yX7_late : MethodName := ⟨RX7, "late", "(II)I"⟩
abbrev cX7_changed : ByteArray := prog_9_method_49_code
def yX7_changed : MethodName := ⟨RX7, "changed", "(I)I"⟩
abbrev cX7_isWaiting : ByteArray := prog_9_method_50_code
def yX7_isWaiting : MethodName := ⟨RX7, "isWaiting", "(I)Z"⟩
abbrev cX7_now : ByteArray := prog_9_method_51_code
def yX7_now : MethodName := ⟨RX7, "now", "(I)I"⟩
abbrev cX7_waiting : ByteArray := prog_9_method_52_code
def yX7_waiting : MethodName := ⟨RX7, "waiting", "()I"⟩
abbrev cX7_stays : ByteArray := prog_9_method_53_code
def yX7_stays : MethodName := ⟨RX7, "stays", "(I)I"⟩
abbrev cX7_stay : ByteArray := prog_9_method_54_code
def yX7_stay : MethodName := ⟨RX7, "stay", "(III)I"⟩
abbrev cX7_at : ByteArray := prog_9_method_55_code
def yX7_at : MethodName := ⟨RX7, "at", "(III)I"⟩
abbrev cX7_crowd : ByteArray := prog_9_method_56_code
def yX7_crowd : MethodName := ⟨RX7, "crowd", "(III)I"⟩
def RL : String := "ApronDeskLaw"
abbrev cL_law : ByteArray := code
def yL_law : MethodName := ⟨RL, "law", "([I)Z"⟩
abbrev vwCl : List vw_C := [(RX0, TX0, 5), (RX1, TX1, 12), (RX2, TX2, 8), (RX3, TX3, 2), (RX4, TX4, 9), (RX5, TX5, 8), (RX6, TX6, 10), (RX7, TX7, 35)]
end
section
/-! THE JUDGEMENT: a world of fixed cells, by numbers; a store gives each cell's ints. -/
abbrev tSt : Type := Nat → Int32 → Int32
abbrev tSC : Type := (Bool × Nat) ⊕ (Nat × List (Option Nat))
abbrev tSh : Type := List tSC
/-- a method: its name, code, locals, answer, room, world -/
abbrev tMS : Type := MethodName × ByteArray × Nat × Option FieldType × Room × Nat
def cv (ad : Nat → Nat) (v : Value) : Value := match v with
  | .ref k => .ref (ad k)
  | v => v
def tfld (ad : Nat → Nat) (f : Int32 → Int32) (i : Nat) (o : Option Nat) : Value := match o with
  | some j => .ref (ad j)
  | none => .int (f (nI i))
def tent (ad : Nat → Nat) (cA cZ : ClassId) (f : Int32 → Int32) (q : tSC) : va_E := match q with
  | .inl (b, n) => .inl (bif b then cZ else cA, n, .inl (fun j => f (nI j)))
  | .inr (ci, fs) => .inr (ci, fs.mapIdx (tfld ad f))
def tpic (ad : Nat → Nat) (cA cZ : ClassId) (sh : tSh) (σ : tSt) : va_W := sh.mapIdx (fun k q => (ad k, tent ad cA cZ (σ k) q))
theorem tpic_at {ad : Nat → Nat} {cA cZ : ClassId} {sh : tSh} {σ : tSt} {k : Nat} {q : tSC} (h : sh[k]? = some q) : (tpic ad cA cZ sh σ)[k]? = some (ad k, tent ad cA cZ (σ k) q) := by
  simp [tpic, h]
theorem tpic_of {ad : Nat → Nat} {cA cZ : ClassId} {sh : tSh} {σ : tSt} {k : Nat} {x : Nat × va_E} (h : (tpic ad cA cZ sh σ)[k]? = some x) : ∃ q, sh[k]? = some q ∧ x = (ad k, tent ad cA cZ (σ k) q) := by
  simp only [tpic, List.getElem?_mapIdx] at h
  cases hq : sh[k]? with
  | none => rw [hq] at h; cases h
  | some q => rw [hq] at h; exact ⟨q, rfl, (Option.some.inj h).symm⟩
def tInj (ad : Nat → Nat) (n : Nat) : Prop := ∀ i j, i < n → j < n → ad i = ad j → i = j
def tAW (n : Nat) (ad : Nat → Nat) (sz : Nat) : Nat → Prop := fun q => (∃ k, k < n ∧ q = ad k) ∨ sz ≤ q
theorem tpic_D {ad : Nat → Nat} {cA cZ : ClassId} {sh : tSh} {σ : tSt} {sz : Nat} (h : tInj ad sh.length) : va_D (tAW sh.length ad sz) (tpic ad cA cZ sh σ) := by
  refine ⟨fun i j p q hi hj hpq => ?_, fun k q hk => ?_⟩
  · obtain ⟨a, ha, rfl⟩ := tpic_of hi
    obtain ⟨b, hb, rfl⟩ := tpic_of hj
    exact h i j (List.getElem?_eq_some_iff.mp ha).1 (List.getElem?_eq_some_iff.mp hb).1 hpq
  · obtain ⟨a, ha, rfl⟩ := tpic_of hk
    exact Or.inl ⟨k, (List.getElem?_eq_some_iff.mp ha).1, rfl⟩
/-- a store with one int changed -/
def up (σ : tSt) (k : Nat) (i x : Int32) : tSt := fun k' => if k' = k then (fun i' => if i' = i then x else σ k i') else σ k'
theorem up_s {σ : tSt} {k : Nat} {i x : Int32} : up σ k i x k i = x := by simp [up]
theorem up_k {σ : tSt} {k k' : Nat} {i x : Int32} (h : k' ≠ k) : up σ k i x k' = σ k' := by simp [up, h]
theorem up_n {σ : tSt} {k k' : Nat} {i i' x : Int32} (h : i' ≠ i) : up σ k i x k' i' = σ k' i' := by
  simp only [up]
  by_cases hk : k' = k
  · subst hk; simp [h]
  · simp [hk]
theorem up_at (σ : tSt) (k : Nat) (i x i' : Int32) : up σ k i x k i' = if i' = i then x else σ k i' := by simp [up]
theorem vcell_congr {c : ClassId} {n : Nat} {f g : Nat → Int32} (h : ∀ j, j < n → f j = g j) : vp_cell c (n, .inl f) = vp_cell c (n, .inl g) := by
  rw [vp_cell_i, vp_cell_i]
  unfold arrV
  congr 1
  apply congrArg
  funext j
  exact congrArg Value.int (h j.val j.isLt)
theorem nI_inj {a b : Nat} (ha : a < 2 ^ 31) (hb : b < 2 ^ 31) (h : nI a = nI b) : a = b := (nI_eq ha hb).mp h
theorem vp_in_eq {i : Int32} {n : Nat} (h : vp_in i n) (hn : n < 2 ^ 31) : i.toNatClampNeg < n ∧ nI i.toNatClampNeg = i := by
  obtain ⟨j, hj, rfl⟩ := vp_in_of h hn
  rw [nI_clamp (by omega)]
  exact ⟨hj, rfl⟩
theorem tput_arr {D : va_G} {cl : List vw_C} {ad : Nat → Nat} {cA cZ : ClassId} {sh : tSh} {σ : tSt} {k : Nat} {b : Bool} {n : Nat} {i x : Int32} {H : Heap} (hs : sh[k]? = some (.inl (b, n))) (hn : n < 2 ^ 31) (hi : vp_in i n)
    (h : va_P D cl ((tpic ad cA cZ sh σ).set k (ad k, .inl (bif b then cZ else cA, n, .inl (upd (fun j => σ k (nI j)) i.toNatClampNeg x)))) H) : va_P D cl (tpic ad cA cZ sh (up σ k i x)) H := by
  obtain ⟨hlt, he⟩ := vp_in_eq hi hn
  have hk : k < (tpic ad cA cZ sh σ).length := (List.getElem?_eq_some_iff.mp (tpic_at hs)).1
  intro k' q hq
  obtain ⟨q', hq', rfl⟩ := tpic_of hq
  by_cases hkk : k' = k
  · subst hkk
    obtain rfl : q' = .inl (b, n) := Option.some.inj (hq'.symm.trans hs)
    have h1 := h k' _ (List.getElem?_set_self hk)
    show H[ad k']? = some (vp_cell _ _)
    refine Eq.trans h1 (congrArg some (vcell_congr fun j hj => ?_))
    simp only [upd, up]
    by_cases hji : j = i.toNatClampNeg
    · subst hji; simp [he]
    · have : nI j ≠ i := fun q => hji (nI_inj (by omega) (by omega) (q.trans he.symm))
      simp [hji, this]
  · have h1 := h k' (ad k', tent ad cA cZ (σ k') q') (by rw [List.getElem?_set_ne (Ne.symm hkk)]; exact tpic_at hq')
    rw [up_k hkk]
    exact h1
theorem tput_fld {D : va_G} {cl : List vw_C} {ad : Nat → Nat} {cA cZ : ClassId} {sh : tSh} {σ : tSt} {k i : Nat} {ci : Nat} {fs : List (Option Nat)} {x : Int32} {H : Heap} (hs : sh[k]? = some (.inr (ci, fs))) (hi : fs[i]? = some none) (hn : fs.length < 2 ^ 31)
    (h : va_P D cl ((tpic ad cA cZ sh σ).set k (ad k, .inr (ci, (fs.mapIdx (tfld ad (σ k))).set i (.int x)))) H) : va_P D cl (tpic ad cA cZ sh (up σ k (nI i) x)) H := by
  have hk : k < (tpic ad cA cZ sh σ).length := (List.getElem?_eq_some_iff.mp (tpic_at hs)).1
  have hil : i < fs.length := (List.getElem?_eq_some_iff.mp hi).1
  intro k' q hq
  obtain ⟨q', hq', rfl⟩ := tpic_of hq
  by_cases hkk : k' = k
  · subst hkk
    obtain rfl : q' = .inr (ci, fs) := Option.some.inj (hq'.symm.trans hs)
    have h1 := h k' _ (List.getElem?_set_self hk)
    have e : (fs.mapIdx (tfld ad (σ k'))).set i (.int x) = fs.mapIdx (tfld ad (up σ k' (nI i) x k')) := by
      apply List.ext_getElem?
      intro j
      by_cases hj : j = i
      · subst hj
        rw [List.getElem?_set_self (by simpa using hil), List.getElem?_mapIdx, hi]
        simp [tfld, up_s]
      · rw [List.getElem?_set_ne (Ne.symm hj), List.getElem?_mapIdx, List.getElem?_mapIdx]
        cases hf : fs[j]? with
        | none => rfl
        | some o =>
          have hjl : j < fs.length := (List.getElem?_eq_some_iff.mp hf).1
          cases o with
          | some _ => rfl
          | none => simp only [Option.map_some, tfld, up_n (show nI j ≠ nI i from fun q => hj (nI_inj (by omega) (by omega) q))]
    rw [e] at h1
    exact h1
  · have h1 := h k' (ad k', tent ad cA cZ (σ k') q') (by rw [List.getElem?_set_ne (Ne.symm hkk)]; exact tpic_at hq')
    rw [up_k hkk]
    exact h1
/-! the tables' words -/
def gw (w : Cond) : Bool := match w with
  | .fieldLinkNest .. => true
  | .methodLinkNest .. => true
  | .arrayClass _ => false
  | w => w.onTables && w.keeps
def tTB (U : State) : Prop := ∀ w ∈ lw_tbl, gw w = true → va_Nw w U
def tWD (w : Cond) : Prop := w ∈ lw_tbl ∧ gw w = true
theorem gw_on {w : Cond} (h : gw w = true) : w.onTables = true := by
  cases w <;> first | rfl | (simp only [gw, Bool.and_eq_true] at h; exact h.1) | (cases h)
theorem tTB.warm {s U : State} (hW : s.WarmedH U.vm) (h : tTB s) : tTB U := by
  intro w hw hg
  have h1 := h w hw hg
  cases w <;> first | exact va_Nw.warmF hW h1 | exact va_Nw.warmM hW h1 | exact word_at hW (Or.inl hg) h1 | cases hg
theorem tTB.same {s U : State} (hv : s.vm = U.vm) (h : tTB s) : tTB U := fun w hw hg => va_Nw.same (gw_on hg) hv (h w hw hg)
theorem tTB.use {s : State} {args : Array Value} (h : tTB s) {w : Cond} (hw : tWD w) : w.before args s = true := va_Nw.use (gw_on hw.2) (h w hw.1 hw.2)
/-! the two worlds -/
def shX : tSh := [
  .inr (6, [some 17, some 18, some 19, some 20, some 21, some 22, none, none, none, none]),
  .inl (false, 24), .inl (false, 24), .inl (false, 40), .inl (false, 40), .inl (false, 40), .inl (false, 40), .inl (false, 20), .inl (false, 20), .inl (false, 20),
  .inl (false, 200), .inl (false, 40), .inl (false, 40), .inl (false, 320), .inl (false, 320), .inl (false, 320), .inl (false, 40),
  .inr (1, [some 1, some 2, some 3, some 4, some 5, some 6, some 7, some 8, some 9, none, none, none]),
  .inr (5, [some 10, some 11, some 12, some 13, some 14, some 15, none, none]),
  .inr (2, [some 17, some 18, some 26, none, none, none, none, none]),
  .inr (4, [some 17, some 18, some 19, some 23, some 27, some 28, none, none, none]),
  .inr (0, [some 18, some 19, some 24, some 25, some 29]),
  .inr (3, [some 30, none]), .inr (3, [some 31, none]), .inr (3, [some 32, none]), .inr (3, [some 16, none]),
  .inl (true, 40), .inl (false, 40), .inl (false, 40), .inl (false, 40), .inl (false, 40), .inl (false, 40), .inl (false, 40)]
def shM : tSh := [
  .inr (7, [none, none, none, none, none, none, none, none, none, some 1, some 2, some 3, some 4, some 5, some 6, some 7, some 8, some 9, some 11, some 10, some 12, some 13, some 14, some 15, none, some 17, none, some 18, some 19, none, none, some 20, some 21, some 16, none]),
  .inl (false, 24), .inl (false, 24), .inl (false, 40), .inl (false, 40), .inl (false, 40), .inl (false, 40), .inl (false, 20), .inl (false, 20), .inl (false, 20),
  .inl (false, 200), .inl (false, 40), .inl (false, 40), .inl (false, 320), .inl (false, 320), .inl (false, 320), .inl (false, 40),
  .inl (false, 40), .inl (false, 40), .inl (false, 40), .inl (false, 40), .inl (false, 40)]
def shp (w : Nat) : tSh := match w with
  | 0 => shX
  | _ => shM
def frO (i : Int32) : Int32 := if i = nI 0 then nI 4 else if i = nI 1 then nI 1 else nI 5
def coO (i : Int32) : Int32 := if i = nI 0 then nI 2 else if i = nI 1 then nI 3 else if i = nI 2 then nI 1 else if i = nI 3 then nI 4 else nI 5
def tSF (w : Nat) (ad : Nat → Nat) (A : Nat → Prop) (s : State) : Prop := w = 0 →
  (va_Z "ApronDesk" "FREIGHT_ORDER" "[I" (.ref (ad 100)) A s s.heap ∧ va_T .int (ad 100) 3 (fun j => .int (frO (nI j))) A s s.heap) ∧
  (va_Z "ApronDesk" "COMMON_ORDER" "[I" (.ref (ad 101)) A s s.heap ∧ va_T .int (ad 101) 5 (fun j => .int (coO (nI j))) A s s.heap)
abbrev tTy (cA cZ : ClassId) : List (ClassId × FieldType) := [(cA, .int), (cZ, .boolean)]
def tCX (y : tMS) (D : va_G) (ad : Nat → Nat) (cA cZ : ClassId) (p : Program) (s : State) (m : MethodId) (meth : Method) (c : Code) : Prop :=
  p.tables.exec = Jvm.exec ∧ c.code = y.2.1 ∧ c.maxLocals = y.2.2.1 ∧ meth.sig.returnType = y.2.2.2.1 ∧ meth.locks = false ∧ s.vm.findClass y.1.cls = some m.cls ∧ tTB s ∧ va_K D vwCl (tTy cA cZ) s ∧ tInj ad (shp y.2.2.2.2.2).length ∧ tSF y.2.2.2.2.2 ad (tAW (shp y.2.2.2.2.2).length ad s.heap.size) s
def tQR (w : Nat) (D : va_G) (ad : Nat → Nat) (cA cZ : ClassId) (Q : Option Int32 → tSt → Prop) : Array Value → State → Outcome → State → Prop := fun _ st oc t =>
  (∃ (r : Option Int32) (σ : tSt), oc = .returned (r.map Value.int) ∧ Q r σ ∧ va_P D vwCl (tpic ad cA cZ (shp w) σ) t.heap) ∧ va_F (tAW (shp w).length ad st.heap.size) st t
def tLR (ad : Nat → Nat) (ls : Array Slot) (n : Nat) (L : List Value) : Prop := ls.size = n ∧ lv_wf ls ∧ ∀ (k : Nat) (v : Value), L[k]? = some v → v ≠ .null → ls[k]? = some (.val (cv ad v))
/-- THE JUDGEMENT: method y, at pc, with locals L and stack st (cells by their numbers; null: not set) over the store σ, comes to an end with Q -/
def TT (y : tMS) (pc : Nat) (L st : List Value) (σ : tSt) (Q : Option Int32 → tSt → Prop) : Prop :=
  ∀ (l : Launch) (D : va_G) (ad : Nat → Nat) (cA cZ : ClassId) (p : Program) (e : Env) (s : State) (m : MethodId) (args : Array Value) (below : List Frame) (meth : Method) (c : Code) (H : Heap) (locs : List Loc) (ls : Array Slot),
    tCX y D ad cA cZ p s m meth c → va_P D vwCl (tpic ad cA cZ (shp y.2.2.2.2.2) σ) H → va_S (tAW (shp y.2.2.2.2.2).length ad s.heap.size) s.heap H locs → tLR ad ls y.2.2.1 L →
    W p l e y.2.2.2.2.1 s m args below meth c H locs 0 0 (MQ below (tQR y.2.2.2.2.2 D ad cA cZ Q) args s 0 0 (tAW (shp y.2.2.2.2.2).length ad s.heap.size)) (F0 m pc ls (st.map (cv ad)))
def tPX (w : Nat) (D : va_G) (ad : Nat → Nat) (cA cZ : ClassId) (σ : tSt) (sz : Nat) (U : State) : Prop :=
  U.heap.size = sz ∧ tTB U ∧ va_K D vwCl (tTy cA cZ) U ∧ tInj ad (shp w).length ∧ va_P D vwCl (tpic ad cA cZ (shp w) σ) U.heap ∧ tSF w ad (tAW (shp w).length ad sz) U
/-- THE CONTRACT: method z, called with as over σ -/
def CT (z : tMS) (as : List Value) (σ : tSt) (Q : Option Int32 → tSt → Prop) : Prop :=
  ∀ (l : Launch) (D : va_G) (ad : Nat → Nat) (cA cZ : ClassId) (sz : Nat), Met l z.1 [.code z.1 z.2.1 z.2.2.1 z.2.2.2.1] z.2.2.2.2.1 (va_Pc (as.map (cv ad)) (tPX z.2.2.2.2.2 D ad cA cZ σ sz)) (tQR z.2.2.2.2.2 D ad cA cZ Q) 0 0 (tAW (shp z.2.2.2.2.2).length ad sz)
theorem cv_cat (ad : Nat → Nat) (v : Value) : (cv ad v).category = v.category := by cases v <;> rfl
theorem tLR_entry (ad : Nat → Nat) (as : List Value) (n j : Nat) (hc : ∀ v ∈ as, v.category = 1) (hn : as.length + j = n) :
    tLR ad ((lg_sl (as.map (cv ad)) ++ List.replicate (n - (lg_sl (as.map (cv ad))).length) Slot.unset).toArray) n (as ++ List.replicate j .null) := by
  have hsl : ∀ l : List Value, (∀ v ∈ l, v.category = 1) → lg_sl (l.map (cv ad)) = l.map (fun v => Slot.val (cv ad v)) := by
    intro l
    induction l with
    | nil => intro _; rfl
    | cons v t ih =>
      intro h
      have h1 := h v List.mem_cons_self
      simp only [List.map_cons, lg_sl, List.flatMap_cons, cv_cat, h1]
      have := ih (fun w hw => h w (List.mem_cons_of_mem _ hw))
      simp only [lg_sl] at this
      rw [this]
      rfl
  have hlen : (lg_sl (as.map (cv ad))).length ≤ n := by rw [hsl as hc]; simp; omega
  obtain ⟨h1, h2, -⟩ := lv_entry (as.map (cv ad)) hlen
  refine ⟨h1, h2, fun k v hk hv => ?_⟩
  rw [hsl as hc]
  by_cases hkl : k < as.length
  · rw [List.getElem?_append_left hkl] at hk
    simp [List.getElem?_append_left, hkl, hk]
    have := List.getElem?_eq_some_iff.mp hk
    obtain ⟨_, e⟩ := this
    rw [e]
  · rw [List.getElem?_append_right (by omega)] at hk
    have := List.mem_of_getElem? hk
    rw [List.mem_replicate] at this
    exact absurd this.2 hv
theorem CT.of {z : tMS} {as : List Value} {σ : tSt} {Q : Option Int32 → tSt → Prop} (j : Nat) (hy : plainName z.1.cls = true) (hc : ∀ v ∈ as, v.category = 1) (hn : as.length + j = z.2.2.1) (h : TT z 0 (as ++ List.replicate j .null) [] σ Q) : CT z as σ Q := by
  intro l D ad cA cZ sz
  refine Met.ofW (cc := z.2.1) (maxL := z.2.2.1) (ret := z.2.2.2.1) hy rfl ?_
  intro p e s m args below meth c s₁ B hml hv
  obtain ⟨rfl, hsz, hT, hK, hI, hP, hF⟩ := hv
  subst hsz
  rw [lg_entry_eq]
  exact h l D ad cA cZ p e s m _ below meth c s.heap [] _ ⟨B.exec, B.bytes, hml, B.returns, B.notSynchronized, findClass_of_methodNamed B.named, hT, hK, hI, hF⟩ hP va_S.rf (tLR_entry ad as z.2.2.1 j hc hn)
theorem CT.mono {z : tMS} {as : List Value} {σ : tSt} {Q Q' : Option Int32 → tSt → Prop} (h : CT z as σ Q) (hq : ∀ r σ', Q r σ' → Q' r σ') : CT z as σ Q' := by
  intro l D ad cA cZ sz p e h1 h2 h3 s m args below h4 h5 h6 h7
  obtain ⟨k, o, a1, a2, a3, ⟨⟨r, σ', b1, b2, b3⟩, b4⟩, a4⟩ := h l D ad cA cZ sz p e h1 h2 h3 s m args below h4 h5 h6 h7
  exact ⟨k, o, a1, a2, a3, ⟨⟨r, σ', b1, hq r σ' b2, b3⟩, b4⟩, a4⟩
end
section
/-! ROWS OF THE JUDGEMENT, one an instruction -/
def DC (y : tMS) (pc : Nat) (i : Instr) (n pc' : Nat) : Prop := decode y.2.1 pc = .ok (i, n) ∧ pc + n = pc'
def DJ (y : tMS) (pc : Nat) (f : Int → Instr) (tgt pc' : Nat) : Prop := ∃ off : Int, decode y.2.1 pc = .ok (f off, 3) ∧ (pc : Int) + off = (tgt : Int) ∧ pc + 3 = pc'
section TROWS
variable {y : tMS} {pc pc' tgt : Nat} {L st : List Value} {σ : tSt} {Q : Option Int32 → tSt → Prop}
theorem tr_iconst {n : Int} (d : DC y pc (.iconst n) 1 pc') (v : Int32) (hv : Int32.ofInt n = v) (k : TT y pc' L (.int v :: st) σ Q) : TT y pc L (st) σ Q := by
  intro l D ad cA cZ p e s m args below meth c H locs ls hC hP hS hL
  obtain ⟨hd, rfl⟩ := d
  exact lv_iconst hC.1 hC.2.1 hd hv (k l D ad cA cZ p e s m args below meth c H locs ls hC hP hS hL)
theorem tr_bipush {n : Int} (d : DC y pc (.bipush n) 2 pc') (v : Int32) (hv : (Int8.ofInt n).toInt32 = v) (k : TT y pc' L (.int v :: st) σ Q) : TT y pc L (st) σ Q := by
  intro l D ad cA cZ p e s m args below meth c H locs ls hC hP hS hL
  obtain ⟨hd, rfl⟩ := d
  exact lv_bipush hC.1 hC.2.1 hd hv (k l D ad cA cZ p e s m args below meth c H locs ls hC hP hS hL)
theorem tr_sipush {n : Int} (d : DC y pc (.sipush n) 3 pc') (v : Int32) (hv : (Int16.ofInt n).toInt32 = v) (k : TT y pc' L (.int v :: st) σ Q) : TT y pc L (st) σ Q := by
  intro l D ad cA cZ p e s m args below meth c H locs ls hC hP hS hL
  obtain ⟨hd, rfl⟩ := d
  exact lv_sipush hC.1 hC.2.1 hd hv (k l D ad cA cZ p e s m args below meth c H locs ls hC hP hS hL)
theorem tr_iload_n {i : Fin 4} {x : Int32} (d : DC y pc (.iload_n i) 1 pc') (hl : L[(i : Nat)]? = some (.int x)) (k : TT y pc' L (.int x :: st) σ Q) : TT y pc L (st) σ Q := by
  intro l D ad cA cZ p e s m args below meth c H locs ls hC hP hS hL
  obtain ⟨hd, rfl⟩ := d
  exact lv_iload_n hC.1 hC.2.1 hd rfl (hL.2.2 _ _ hl (fun h => by cases h)) (k l D ad cA cZ p e s m args below meth c H locs ls hC hP hS hL)
theorem tr_iload {i : Nat} {x : Int32} (d : DC y pc (.iload i) 2 pc') (hl : L[i]? = some (.int x)) (k : TT y pc' L (.int x :: st) σ Q) : TT y pc L (st) σ Q := by
  intro l D ad cA cZ p e s m args below meth c H locs ls hC hP hS hL
  obtain ⟨hd, rfl⟩ := d
  exact lv_iload hC.1 hC.2.1 hd (hL.2.2 _ _ hl (fun h => by cases h)) (k l D ad cA cZ p e s m args below meth c H locs ls hC hP hS hL)
theorem tr_aload_n {i : Fin 4} {x : Nat} (d : DC y pc (.aload_n i) 1 pc') (hl : L[(i : Nat)]? = some (.ref x)) (k : TT y pc' L (.ref x :: st) σ Q) : TT y pc L (st) σ Q := by
  intro l D ad cA cZ p e s m args below meth c H locs ls hC hP hS hL
  obtain ⟨hd, rfl⟩ := d
  exact lv_aload_n hC.1 hC.2.1 hd rfl (hL.2.2 _ _ hl (fun h => by cases h)) (k l D ad cA cZ p e s m args below meth c H locs ls hC hP hS hL)
theorem tr_aload {i : Nat} {x : Nat} (d : DC y pc (.aload i) 2 pc') (hl : L[i]? = some (.ref x)) (k : TT y pc' L (.ref x :: st) σ Q) : TT y pc L (st) σ Q := by
  intro l D ad cA cZ p e s m args below meth c H locs ls hC hP hS hL
  obtain ⟨hd, rfl⟩ := d
  exact lv_aload hC.1 hC.2.1 hd (hL.2.2 _ _ hl (fun h => by cases h)) (k l D ad cA cZ p e s m args below meth c H locs ls hC hP hS hL)
theorem tr_iadd {a b : Int32} (d : DC y pc .iadd 1 pc') (k : TT y pc' L (.int (a + b) :: st) σ Q) : TT y pc L (.int b :: .int a :: st) σ Q := by
  intro l D ad cA cZ p e s m args below meth c H locs ls hC hP hS hL
  obtain ⟨hd, rfl⟩ := d
  exact lv_iadd hC.1 hC.2.1 hd (k l D ad cA cZ p e s m args below meth c H locs ls hC hP hS hL)
theorem tr_isub {a b : Int32} (d : DC y pc .isub 1 pc') (k : TT y pc' L (.int (a - b) :: st) σ Q) : TT y pc L (.int b :: .int a :: st) σ Q := by
  intro l D ad cA cZ p e s m args below meth c H locs ls hC hP hS hL
  obtain ⟨hd, rfl⟩ := d
  exact lv_isub hC.1 hC.2.1 hd (k l D ad cA cZ p e s m args below meth c H locs ls hC hP hS hL)
theorem tr_imul {a b : Int32} (d : DC y pc .imul 1 pc') (k : TT y pc' L (.int (a * b) :: st) σ Q) : TT y pc L (.int b :: .int a :: st) σ Q := by
  intro l D ad cA cZ p e s m args below meth c H locs ls hC hP hS hL
  obtain ⟨hd, rfl⟩ := d
  exact lv_imul hC.1 hC.2.1 hd (k l D ad cA cZ p e s m args below meth c H locs ls hC hP hS hL)
theorem tr_iand {a b : Int32} (d : DC y pc .iand 1 pc') (k : TT y pc' L (.int (a &&& b) :: st) σ Q) : TT y pc L (.int b :: .int a :: st) σ Q := by
  intro l D ad cA cZ p e s m args below meth c H locs ls hC hP hS hL
  obtain ⟨hd, rfl⟩ := d
  exact lv_iand hC.1 hC.2.1 hd (k l D ad cA cZ p e s m args below meth c H locs ls hC hP hS hL)
theorem tr_idiv {a b : Int32} (d : DC y pc .idiv 1 pc') (hb : ¬ b = 0) (k : TT y pc' L (.int (a / b) :: st) σ Q) : TT y pc L (.int b :: .int a :: st) σ Q := by
  intro l D ad cA cZ p e s m args below meth c H locs ls hC hP hS hL
  obtain ⟨hd, rfl⟩ := d
  exact lv_idiv hC.1 hC.2.1 hd hb (k l D ad cA cZ p e s m args below meth c H locs ls hC hP hS hL)
theorem tr_dup {v : Value} (d : DC y pc .dup 1 pc') (hv : v.category = 1) (k : TT y pc' L (v :: v :: st) σ Q) : TT y pc L (v :: st) σ Q := by
  intro l D ad cA cZ p e s m args below meth c H locs ls hC hP hS hL
  obtain ⟨hd, rfl⟩ := d
  exact lv_dup hC.1 hC.2.1 hd ((cv_cat ad v).trans hv) (k l D ad cA cZ p e s m args below meth c H locs ls hC hP hS hL)
theorem tr_dup2 {v w : Value} (d : DC y pc .dup2 1 pc') (hv : v.category = 1) (hw : w.category = 1) (k : TT y pc' L (v :: w :: v :: w :: st) σ Q) : TT y pc L (v :: w :: st) σ Q := by
  intro l D ad cA cZ p e s m args below meth c H locs ls hC hP hS hL
  obtain ⟨hd, rfl⟩ := d
  exact lv_dup2_11 hC.1 hC.2.1 hd ((cv_cat ad v).trans hv) ((cv_cat ad w).trans hw) (k l D ad cA cZ p e s m args below meth c H locs ls hC hP hS hL)
theorem tr_pop {v : Value} (d : DC y pc .pop 1 pc') (hv : v.category = 1) (k : TT y pc' L (st) σ Q) : TT y pc L (v :: st) σ Q := by
  intro l D ad cA cZ p e s m args below meth c H locs ls hC hP hS hL
  obtain ⟨hd, rfl⟩ := d
  exact lv_pop hC.1 hC.2.1 hd ((cv_cat ad v).trans hv) (k l D ad cA cZ p e s m args below meth c H locs ls hC hP hS hL)
theorem tr_goto (d : DJ y pc .goto tgt pc') (k : TT y tgt L st σ Q) : TT y pc L st σ Q := by
  intro l D ad cA cZ p e s m args below meth c H locs ls hC hP hS hL
  obtain ⟨off, hd, ht, rfl⟩ := d
  exact lv_goto hC.1 hC.2.1 hd ht (k l D ad cA cZ p e s m args below meth c H locs ls hC hP hS hL)
theorem tr_icmp_eq {a b : Int32} (d : DJ y pc (.if_icmp .eq) tgt pc') (k : (a = b) → TT y tgt L st σ Q) (k2 : ¬ (a = b) → TT y pc' L st σ Q) : TT y pc L (.int b :: .int a :: st) σ Q := by
  intro l D ad cA cZ p e s m args below meth c H locs ls hC hP hS hL
  obtain ⟨off, hd, ht, rfl⟩ := d
  exact lv_icmp_eq hC.1 hC.2.1 hd ht (fun h => k h l D ad cA cZ p e s m args below meth c H locs ls hC hP hS hL) (fun h => k2 h l D ad cA cZ p e s m args below meth c H locs ls hC hP hS hL)
theorem tr_icmp_ne {a b : Int32} (d : DJ y pc (.if_icmp .ne) tgt pc') (k : (¬ a = b) → TT y tgt L st σ Q) (k2 : a = b → TT y pc' L st σ Q) : TT y pc L (.int b :: .int a :: st) σ Q := by
  intro l D ad cA cZ p e s m args below meth c H locs ls hC hP hS hL
  obtain ⟨off, hd, ht, rfl⟩ := d
  exact lv_icmp_ne hC.1 hC.2.1 hd ht (fun h => k h l D ad cA cZ p e s m args below meth c H locs ls hC hP hS hL) (fun h => k2 h l D ad cA cZ p e s m args below meth c H locs ls hC hP hS hL)
theorem tr_icmp_lt {a b : Int32} (d : DJ y pc (.if_icmp .lt) tgt pc') (k : (a < b) → TT y tgt L st σ Q) (k2 : ¬ (a < b) → TT y pc' L st σ Q) : TT y pc L (.int b :: .int a :: st) σ Q := by
  intro l D ad cA cZ p e s m args below meth c H locs ls hC hP hS hL
  obtain ⟨off, hd, ht, rfl⟩ := d
  exact lv_icmp_lt hC.1 hC.2.1 hd ht (fun h => k h l D ad cA cZ p e s m args below meth c H locs ls hC hP hS hL) (fun h => k2 h l D ad cA cZ p e s m args below meth c H locs ls hC hP hS hL)
theorem tr_icmp_ge {a b : Int32} (d : DJ y pc (.if_icmp .ge) tgt pc') (k : (b ≤ a) → TT y tgt L st σ Q) (k2 : ¬ (b ≤ a) → TT y pc' L st σ Q) : TT y pc L (.int b :: .int a :: st) σ Q := by
  intro l D ad cA cZ p e s m args below meth c H locs ls hC hP hS hL
  obtain ⟨off, hd, ht, rfl⟩ := d
  exact lv_icmp_ge hC.1 hC.2.1 hd ht (fun h => k h l D ad cA cZ p e s m args below meth c H locs ls hC hP hS hL) (fun h => k2 h l D ad cA cZ p e s m args below meth c H locs ls hC hP hS hL)
theorem tr_icmp_gt {a b : Int32} (d : DJ y pc (.if_icmp .gt) tgt pc') (k : (b < a) → TT y tgt L st σ Q) (k2 : ¬ (b < a) → TT y pc' L st σ Q) : TT y pc L (.int b :: .int a :: st) σ Q := by
  intro l D ad cA cZ p e s m args below meth c H locs ls hC hP hS hL
  obtain ⟨off, hd, ht, rfl⟩ := d
  exact lv_icmp_gt hC.1 hC.2.1 hd ht (fun h => k h l D ad cA cZ p e s m args below meth c H locs ls hC hP hS hL) (fun h => k2 h l D ad cA cZ p e s m args below meth c H locs ls hC hP hS hL)
theorem tr_icmp_le {a b : Int32} (d : DJ y pc (.if_icmp .le) tgt pc') (k : (a ≤ b) → TT y tgt L st σ Q) (k2 : ¬ (a ≤ b) → TT y pc' L st σ Q) : TT y pc L (.int b :: .int a :: st) σ Q := by
  intro l D ad cA cZ p e s m args below meth c H locs ls hC hP hS hL
  obtain ⟨off, hd, ht, rfl⟩ := d
  exact lv_icmp_le hC.1 hC.2.1 hd ht (fun h => k h l D ad cA cZ p e s m args below meth c H locs ls hC hP hS hL) (fun h => k2 h l D ad cA cZ p e s m args below meth c H locs ls hC hP hS hL)
theorem tr_if_eq {a : Int32} (d : DJ y pc (.ifCond .eq) tgt pc') (k : (a = 0) → TT y tgt L st σ Q) (k2 : ¬ (a = 0) → TT y pc' L st σ Q) : TT y pc L (.int a :: st) σ Q := by
  intro l D ad cA cZ p e s m args below meth c H locs ls hC hP hS hL
  obtain ⟨off, hd, ht, rfl⟩ := d
  exact lv_if_eq hC.1 hC.2.1 hd ht (fun h => k h l D ad cA cZ p e s m args below meth c H locs ls hC hP hS hL) (fun h => k2 h l D ad cA cZ p e s m args below meth c H locs ls hC hP hS hL)
theorem tr_if_ne {a : Int32} (d : DJ y pc (.ifCond .ne) tgt pc') (k : (¬ a = 0) → TT y tgt L st σ Q) (k2 : a = 0 → TT y pc' L st σ Q) : TT y pc L (.int a :: st) σ Q := by
  intro l D ad cA cZ p e s m args below meth c H locs ls hC hP hS hL
  obtain ⟨off, hd, ht, rfl⟩ := d
  exact lv_if_ne hC.1 hC.2.1 hd ht (fun h => k h l D ad cA cZ p e s m args below meth c H locs ls hC hP hS hL) (fun h => k2 h l D ad cA cZ p e s m args below meth c H locs ls hC hP hS hL)
theorem tr_if_lt {a : Int32} (d : DJ y pc (.ifCond .lt) tgt pc') (k : (a < 0) → TT y tgt L st σ Q) (k2 : ¬ (a < 0) → TT y pc' L st σ Q) : TT y pc L (.int a :: st) σ Q := by
  intro l D ad cA cZ p e s m args below meth c H locs ls hC hP hS hL
  obtain ⟨off, hd, ht, rfl⟩ := d
  exact lv_if_lt hC.1 hC.2.1 hd ht (fun h => k h l D ad cA cZ p e s m args below meth c H locs ls hC hP hS hL) (fun h => k2 h l D ad cA cZ p e s m args below meth c H locs ls hC hP hS hL)
theorem tr_if_ge {a : Int32} (d : DJ y pc (.ifCond .ge) tgt pc') (k : (0 ≤ a) → TT y tgt L st σ Q) (k2 : ¬ (0 ≤ a) → TT y pc' L st σ Q) : TT y pc L (.int a :: st) σ Q := by
  intro l D ad cA cZ p e s m args below meth c H locs ls hC hP hS hL
  obtain ⟨off, hd, ht, rfl⟩ := d
  exact lv_if_ge hC.1 hC.2.1 hd ht (fun h => k h l D ad cA cZ p e s m args below meth c H locs ls hC hP hS hL) (fun h => k2 h l D ad cA cZ p e s m args below meth c H locs ls hC hP hS hL)
theorem tr_if_gt {a : Int32} (d : DJ y pc (.ifCond .gt) tgt pc') (k : (0 < a) → TT y tgt L st σ Q) (k2 : ¬ (0 < a) → TT y pc' L st σ Q) : TT y pc L (.int a :: st) σ Q := by
  intro l D ad cA cZ p e s m args below meth c H locs ls hC hP hS hL
  obtain ⟨off, hd, ht, rfl⟩ := d
  exact lv_if_gt hC.1 hC.2.1 hd ht (fun h => k h l D ad cA cZ p e s m args below meth c H locs ls hC hP hS hL) (fun h => k2 h l D ad cA cZ p e s m args below meth c H locs ls hC hP hS hL)
theorem tr_if_le {a : Int32} (d : DJ y pc (.ifCond .le) tgt pc') (k : (a ≤ 0) → TT y tgt L st σ Q) (k2 : ¬ (a ≤ 0) → TT y pc' L st σ Q) : TT y pc L (.int a :: st) σ Q := by
  intro l D ad cA cZ p e s m args below meth c H locs ls hC hP hS hL
  obtain ⟨off, hd, ht, rfl⟩ := d
  exact lv_if_le hC.1 hC.2.1 hd ht (fun h => k h l D ad cA cZ p e s m args below meth c H locs ls hC hP hS hL) (fun h => k2 h l D ad cA cZ p e s m args below meth c H locs ls hC hP hS hL)
theorem tLR_set {ad : Nat → Nat} {ls' : Array Slot} {n i : Nat} {v : Value} (h' : lv_has ls' n ((i, cv ad v) :: ((L.zipIdx.filterMap (fun q => if q.1 = .null then none else some (q.2, cv ad q.1))).filter (fun q => !(q.1 == i) && !(q.1 + 1 == i && q.2.category == 2))))) (hc : ∀ w ∈ L, w.category = 1 ∨ w = .null) : tLR ad ls' n (L.set i v) := by
  refine ⟨h'.1, h'.2.1, fun k w hk hw => ?_⟩
  by_cases hki : k = i
  · subst hki
    have hlt : k < L.length := by
      have := (List.getElem?_eq_some_iff.mp hk).1
      simpa using this
    rw [List.getElem?_set_self hlt] at hk
    cases hk
    exact h'.2.2 (k, cv ad v) List.mem_cons_self
  · rw [List.getElem?_set_ne (Ne.symm hki)] at hk
    refine h'.2.2 (k, cv ad w) (List.mem_cons_of_mem _ (List.mem_filter.mpr ⟨List.mem_filterMap.mpr ⟨(w, k), ?_, by simp [hw]⟩, ?_⟩))
    · exact List.mem_zipIdx_iff_getElem?.mpr hk
    · have h1 : (cv ad w).category = 1 := by
        rw [cv_cat]
        rcases hc w (List.mem_of_getElem? hk) with h | h
        · exact h
        · exact absurd h hw
      simp [hki, h1]
theorem tLR_has {ad : Nat → Nat} {ls : Array Slot} {n : Nat} (h : tLR ad ls n L) : lv_has ls n (L.zipIdx.filterMap (fun q => if q.1 = .null then none else some (q.2, cv ad q.1))) := by
  refine ⟨h.1, h.2.1, fun q hq => ?_⟩
  obtain ⟨⟨w, k⟩, h1, h2⟩ := List.mem_filterMap.mp hq
  by_cases hw : w = .null
  · simp [hw] at h2
  · simp [hw] at h2
    subst h2
    exact h.2.2 k w (List.mem_zipIdx_iff_getElem?.mp h1) hw
/-- all locals are ints, cells or unset -/
def tC1 (L : List Value) : Bool := L.all (fun w => match w with
  | .int _ => true
  | .ref _ => true
  | .null => true
  | _ => false)
theorem tC1_all (h : tC1 L = true) : ∀ w ∈ L, w.category = 1 ∨ w = .null := by
  intro w hw
  have := List.all_eq_true.mp h w hw
  cases w <;> simp_all [Value.category]
theorem tr_istore_n {i : Fin 4} {x : Int32} (d : DC y pc (.istore_n i) 1 pc') (hi : (i : Nat) < y.2.2.1) (hc : tC1 L = true) (k : TT y pc' (L.set (i : Nat) (.int x)) st σ Q) : TT y pc L (.int x :: st) σ Q := by
  intro l D ad cA cZ p e s m args below meth c H locs ls hC hP hS hL
  obtain ⟨hd, rfl⟩ := d
  exact lv_istore_n hC.1 hC.2.1 hd rfl (tLR_has hL) hi rfl (fun ls' h' => k l D ad cA cZ p e s m args below meth c H locs ls' hC hP hS (tLR_set (v := .int x) h' (tC1_all hc)))
theorem tr_istore {i : Nat} {x : Int32} (d : DC y pc (.istore i) 2 pc') (hi : (i : Nat) < y.2.2.1) (hc : tC1 L = true) (k : TT y pc' (L.set (i : Nat) (.int x)) st σ Q) : TT y pc L (.int x :: st) σ Q := by
  intro l D ad cA cZ p e s m args below meth c H locs ls hC hP hS hL
  obtain ⟨hd, rfl⟩ := d
  exact lv_istore hC.1 hC.2.1 hd (tLR_has hL) hi rfl (fun ls' h' => k l D ad cA cZ p e s m args below meth c H locs ls' hC hP hS (tLR_set (v := .int x) h' (tC1_all hc)))
theorem tr_astore_n {i : Fin 4} {x : Nat} (d : DC y pc (.astore_n i) 1 pc') (hi : (i : Nat) < y.2.2.1) (hc : tC1 L = true) (k : TT y pc' (L.set (i : Nat) (.ref x)) st σ Q) : TT y pc L (.ref x :: st) σ Q := by
  intro l D ad cA cZ p e s m args below meth c H locs ls hC hP hS hL
  obtain ⟨hd, rfl⟩ := d
  exact lv_astore_n hC.1 hC.2.1 hd rfl (tLR_has hL) hi rfl (fun ls' h' => k l D ad cA cZ p e s m args below meth c H locs ls' hC hP hS (tLR_set (v := .ref x) h' (tC1_all hc)))
theorem tr_astore {i : Nat} {x : Nat} (d : DC y pc (.astore i) 2 pc') (hi : (i : Nat) < y.2.2.1) (hc : tC1 L = true) (k : TT y pc' (L.set (i : Nat) (.ref x)) st σ Q) : TT y pc L (.ref x :: st) σ Q := by
  intro l D ad cA cZ p e s m args below meth c H locs ls hC hP hS hL
  obtain ⟨hd, rfl⟩ := d
  exact lv_astore hC.1 hC.2.1 hd (tLR_has hL) hi rfl (fun ls' h' => k l D ad cA cZ p e s m args below meth c H locs ls' hC hP hS (tLR_set (v := .ref x) h' (tC1_all hc)))
theorem tr_iinc {i : Nat} {n : Int} {x : Int32} (d : DC y pc (.iinc i n) 3 pc') (v : Int32) (hv : x + Int32.ofInt n = v) (hl : L[i]? = some (.int x)) (hi : i < y.2.2.1) (hc : tC1 L = true) (k : TT y pc' (L.set i (.int v)) st σ Q) : TT y pc L st σ Q := by
  intro l D ad cA cZ p e s m args below meth c H locs ls hC hP hS hL
  obtain ⟨hd, rfl⟩ := d
  have hm : (i, Value.int x) ∈ L.zipIdx.filterMap (fun q => if q.1 = .null then none else some (q.2, cv ad q.1)) := List.mem_filterMap.mpr ⟨(.int x, i), List.mem_zipIdx_iff_getElem?.mpr hl, rfl⟩
  obtain ⟨kk, hkk⟩ := List.getElem?_of_mem hm
  exact lv_iinc hC.1 hC.2.1 hd (tLR_has hL) hkk hv hi rfl (fun ls' h' => k l D ad cA cZ p e s m args below meth c H locs ls' hC hP hS (tLR_set (v := .int v) h' (tC1_all hc)))
theorem tr_ret {v : Int32} {ty : FieldType} (d : DC y pc .ireturn 1 pc') (hr : y.2.2.2.1 = some ty) (hn : narrow ty (.int v) = .int v) (hq : Q (some v) σ) : TT y pc L [.int v] σ Q := by
  intro l D ad cA cZ p e s m args below meth c H locs ls hC hP hS hL
  exact W.zret hC.1 hC.2.1 (hC.2.2.2.1.trans hr) hn (fun t ht hW => ⟨⟨some v, σ, rfl, hq, by rw [ht]; exact hP⟩, hS.F ht⟩) hS.2.2 d.1 hC.2.2.2.2.1
theorem tr_vret (d : DC y pc .return_ 1 pc') (hr : y.2.2.2.1 = none) (hq : Q none σ) : TT y pc L [] σ Q := by
  intro l D ad cA cZ p e s m args below meth c H locs ls hC hP hS hL
  exact W.vret hC.1 hC.2.1 (hC.2.2.2.1.trans hr) (fun t ht hW => ⟨⟨none, σ, rfl, hq, by rw [ht]; exact hP⟩, hS.F ht⟩) hS.2.2 d.1 hC.2.2.2.2.1
end TROWS
end
section
/-! ROWS OVER THE WORLD: fields, arrays, statics, calls -/
theorem shp_ok (w : Nat) : (shp w).all (fun q => match q with
  | .inl a => decide (a.2 < 2 ^ 31)
  | .inr o => decide (o.2.length < 2 ^ 31)) = true := by
  unfold shp
  split <;> decide
theorem shp_n {w k : Nat} {b : Bool} {n : Nat} (h : (shp w)[k]? = some (.inl (b, n))) : n < 2 ^ 31 := by
  have := List.all_eq_true.mp (shp_ok w) _ (List.mem_of_getElem? h)
  simpa using this
theorem shp_f {w k : Nat} {ci : Nat} {fs : List (Option Nat)} (h : (shp w)[k]? = some (.inr (ci, fs))) : fs.length < 2 ^ 31 := by
  have := List.all_eq_true.mp (shp_ok w) _ (List.mem_of_getElem? h)
  simpa using this
def tCF (ci : Nat) (C : String) (T : u_T) (N : Nat) (ty : Nat → FieldType) : Prop := vwCl[ci]? = some (C, T, N) ∧ (∀ w ∈ u_ws C T N, tWD w) ∧ (∀ k, k < N → parseFieldDescriptor (T k).2.2.1 = some (ty k)) ∧ (∀ a, a < N → ∀ b, b < N → a ≠ b → (T a).2.1 ≠ (T b).2.1)
def tLF (own : String) (ix : Nat) (C n d : String) : Prop := tWD (.fieldLink own ix C n d) ∨ tWD (.fieldLinkNest own ix C n d "ApronDesk")
def tFK (own : String) (ix ci i : Nat) : Prop := ∃ (C : String) (T : u_T) (N : Nat) (ty : Nat → FieldType), tCF ci C T N ty ∧ i < N ∧ (T i).1 = C ∧ tLF own ix C (T i).2.1 (T i).2.2.1
def tFP (own : String) (ix ci i : Nat) : Prop := ∃ (C : String) (T : u_T) (N : Nat) (ty : Nat → FieldType), tCF ci C T N ty ∧ i < N ∧ (T i).1 = C ∧ tLF own ix C (T i).2.1 (T i).2.2.1 ∧ (T i).2.2.2 = false ∧ ty i = .int
def psh (r : Option Int32) (st : List Value) : List Value := match r with
  | some x => .int x :: st
  | none => st
section THEAP
variable {y : tMS} {pc pc' tgt : Nat} {L st : List Value} {σ : tSt} {Q : Option Int32 → tSt → Prop}
theorem tr_getf {k ci ix i : Nat} {fs : List (Option Nat)} {o : Option Nat} {v : Value} (d : DC y pc (.getfield ix) 3 pc') (hf : tFK y.1.cls ix ci i) (hs : (shp y.2.2.2.2.2)[k]? = some (.inr (ci, fs))) (ho : fs[i]? = some o) (hv : ∀ ad, cv ad v = tfld ad (σ k) i o) (kk : TT y pc' L (v :: st) σ Q) : TT y pc L (.ref k :: st) σ Q := by
  intro l D ad cA cZ p e s m args below meth c H locs ls hC hP hS hL
  obtain ⟨hd, rfl⟩ := d
  obtain ⟨C, T, N, ty, ⟨h1, h2, h3, h4⟩, hi, hT, hl⟩ := hf
  obtain ⟨hx, hb, hml, hr, hlk, hown, hTB, hK, hI, hF⟩ := hC
  have hk := kk l D ad cA cZ p e s m args below meth c H locs ls ⟨hx, hb, hml, hr, hlk, hown, hTB, hK, hI, hF⟩ hP hS hL
  have hvv : (fs.mapIdx (tfld ad (σ k)))[i]? = some (cv ad v) := by rw [List.getElem?_mapIdx, ho, hv]; rfl
  rcases hl with hl | hl
  · exact va_get hx hb (own := y.1.cls) (ref := C) (fun w hw => tTB.use hTB (h2 w hw)) (fun _ h => h) hown hK hP k (tpic_at hs) h1 i hi (tTB.use hTB hl) (fun x h => by rw [hT] at h; exact h) hvv hd hk
  · exact va_getN hx hb (own := y.1.cls) (ref := C) (fun w hw => tTB.use hTB (h2 w hw)) (fun _ h => h) hown hK hP k (tpic_at hs) h1 i hi (tTB.use hTB hl) (fun x h => by rw [hT] at h; exact h) hvv hd hk
theorem tr_getI {k ci ix i : Nat} {fs : List (Option Nat)} (d : DC y pc (.getfield ix) 3 pc') (hf : tFK y.1.cls ix ci i) (hs : (shp y.2.2.2.2.2)[k]? = some (.inr (ci, fs))) (ho : fs[i]? = some none) (kk : TT y pc' L (.int (σ k (nI i)) :: st) σ Q) : TT y pc L (.ref k :: st) σ Q := tr_getf d hf hs ho (fun _ => rfl) kk
theorem tr_getR {k ci ix i j : Nat} {fs : List (Option Nat)} (d : DC y pc (.getfield ix) 3 pc') (hf : tFK y.1.cls ix ci i) (hs : (shp y.2.2.2.2.2)[k]? = some (.inr (ci, fs))) (ho : fs[i]? = some (some j)) (kk : TT y pc' L (.ref j :: st) σ Q) : TT y pc L (.ref k :: st) σ Q := tr_getf d hf hs ho (fun _ => rfl) kk
theorem tr_put {k ci ix i : Nat} {fs : List (Option Nat)} {x : Int32} (d : DC y pc (.putfield ix) 3 pc') (hf : tFP y.1.cls ix ci i) (hs : (shp y.2.2.2.2.2)[k]? = some (.inr (ci, fs))) (ho : fs[i]? = some none) (kk : TT y pc' L st (up σ k (nI i) x) Q) : TT y pc L (.int x :: .ref k :: st) σ Q := by
  intro l D ad cA cZ p e s m args below meth c H locs ls hC hP hS hL
  obtain ⟨hd, rfl⟩ := d
  obtain ⟨C, T, N, ty, ⟨h1, h2, h3, h4⟩, hi, hT, hl, hfin, hty⟩ := hf
  obtain ⟨hx, hb, hml, hr, hlk, hown, hTB, hK, hI, hF⟩ := hC
  have hl2 : i < (fs.mapIdx (tfld ad (σ k))).length := by simpa using (List.getElem?_eq_some_iff.mp ho).1
  rcases hl with hl | hl
  · exact va_put hx hb (own := y.1.cls) (ref := C) (fun w hw => tTB.use hTB (h2 w hw)) (fun _ h => h) ty h3 h4 hown hK hP (tpic_D hI) hS k (tpic_at hs) h1 i hi (tTB.use hTB hl) (fun x h => by rw [hT] at h; exact h) hfin (by rw [h3 i hi, hty]) rfl rfl hl2 hd
      (fun H1 locs1 hP1 _ hS1 => kk l D ad cA cZ p e s m args below meth c H1 locs1 ls ⟨hx, hb, hml, hr, hlk, hown, hTB, hK, hI, hF⟩ (tput_fld hs ho (shp_f hs) hP1) hS1 hL)
  · exact va_putN hx hb (own := y.1.cls) (ref := C) (fun w hw => tTB.use hTB (h2 w hw)) (fun _ h => h) ty h3 h4 hown hK hP (tpic_D hI) hS k (tpic_at hs) h1 i hi (tTB.use hTB hl) (fun x h => by rw [hT] at h; exact h) hfin (by rw [h3 i hi, hty]) rfl rfl hl2 hd
      (fun H1 locs1 hP1 _ hS1 => kk l D ad cA cZ p e s m args below meth c H1 locs1 ls ⟨hx, hb, hml, hr, hlk, hown, hTB, hK, hI, hF⟩ (tput_fld hs ho (shp_f hs) hP1) hS1 hL)
theorem tr_iald {k n : Nat} {i : Int32} (d : DC y pc .iaload 1 pc') (hs : (shp y.2.2.2.2.2)[k]? = some (.inl (false, n))) (hi : vp_in i n) (kk : TT y pc' L (.int (σ k i) :: st) σ Q) : TT y pc L (.int i :: .ref k :: st) σ Q := by
  intro l D ad cA cZ p e s m args below meth c H locs ls hC hP hS hL
  obtain ⟨hd, rfl⟩ := d
  have hk := kk l D ad cA cZ p e s m args below meth c H locs ls hC hP hS hL
  have he := (vp_in_eq hi (shp_n hs)).2
  refine va_iald hC.1 hC.2.1 hC.2.2.2.2.2.2.2.1 hP k 0 (tpic_at hs) rfl hi hd ?_
  rw [he]
  exact hk
theorem tr_zald {k n : Nat} {i : Int32} (d : DC y pc .baload 1 pc') (hs : (shp y.2.2.2.2.2)[k]? = some (.inl (true, n))) (hi : vp_in i n) (kk : TT y pc' L (.int (σ k i) :: st) σ Q) : TT y pc L (.int i :: .ref k :: st) σ Q := by
  intro l D ad cA cZ p e s m args below meth c H locs ls hC hP hS hL
  obtain ⟨hd, rfl⟩ := d
  have hk := kk l D ad cA cZ p e s m args below meth c H locs ls hC hP hS hL
  have he := (vp_in_eq hi (shp_n hs)).2
  refine va_zald hC.1 hC.2.1 hC.2.2.2.2.2.2.2.1 hP k 1 (tpic_at hs) rfl hi hd ?_
  rw [he]
  exact hk
theorem tr_iast {k n : Nat} {i x : Int32} (d : DC y pc .iastore 1 pc') (hs : (shp y.2.2.2.2.2)[k]? = some (.inl (false, n))) (hi : vp_in i n) (kk : TT y pc' L st (up σ k i x) Q) : TT y pc L (.int x :: .int i :: .ref k :: st) σ Q := by
  intro l D ad cA cZ p e s m args below meth c H locs ls hC hP hS hL
  obtain ⟨hd, rfl⟩ := d
  exact va_iast hC.1 hC.2.1 hC.2.2.2.2.2.2.2.1 hP (tpic_D hC.2.2.2.2.2.2.2.2.1) hS k 0 (tpic_at hs) rfl hi hd (fun H1 locs1 hP1 _ hS1 => kk l D ad cA cZ p e s m args below meth c H1 locs1 ls hC (tput_arr hs (shp_n hs) hi hP1) hS1 hL)
theorem tr_zast {k n : Nat} {i x : Int32} (d : DC y pc .bastore 1 pc') (hs : (shp y.2.2.2.2.2)[k]? = some (.inl (true, n))) (hi : vp_in i n) (hx : vp_nar .boolean x = x) (kk : TT y pc' L st (up σ k i x) Q) : TT y pc L (.int x :: .int i :: .ref k :: st) σ Q := by
  intro l D ad cA cZ p e s m args below meth c H locs ls hC hP hS hL
  obtain ⟨hd, rfl⟩ := d
  refine va_zast hC.1 hC.2.1 hC.2.2.2.2.2.2.2.1 hP (tpic_D hC.2.2.2.2.2.2.2.2.1) hS k 1 (tpic_at hs) rfl hi hd (fun H1 locs1 hP1 _ hS1 => ?_)
  rw [hx] at hP1
  exact kk l D ad cA cZ p e s m args below meth c H1 locs1 ls hC (tput_arr hs (shp_n hs) hi hP1) hS1 hL
/-- the two static rows of the class: cells 100 and 101 -/
def tTab (k : Nat) (i : Int32) : Int32 := if k = 100 then frO i else coO i
def tTl (k : Nat) : Nat := if k = 100 then 3 else 5
theorem tr_tald {k : Nat} {i : Int32} (d : DC y pc .iaload 1 pc') (hw : y.2.2.2.2.2 = 0) (hk : k = 100 ∨ k = 101) (hi : vp_in i (tTl k)) (kk : TT y pc' L (.int (tTab k i) :: st) σ Q) : TT y pc L (.int i :: .ref k :: st) σ Q := by
  intro l D ad cA cZ p e s m args below meth c H locs ls hC hP hS hL
  obtain ⟨hd, rfl⟩ := d
  have hkk := kk l D ad cA cZ p e s m args below meth c H locs ls hC hP hS hL
  obtain ⟨⟨h1, h2⟩, h3, h4⟩ := hC.2.2.2.2.2.2.2.2.2 hw
  rcases hk with rfl | rfl
  · have he := (vp_in_eq hi (by decide)).2
    exact va_ti hC.1 hC.2.1 h2 hS hi (v := .int (frO i)) (by rw [he]) hd hkk
  · have he := (vp_in_eq hi (by decide)).2
    exact va_ti hC.1 hC.2.1 h4 hS hi (v := .int (coO i)) (by rw [he]) hd hkk
theorem tr_tlen {k : Nat} (d : DC y pc .arraylength 1 pc') (hw : y.2.2.2.2.2 = 0) (hk : k = 100 ∨ k = 101) (kk : TT y pc' L (.int (nI (tTl k)) :: st) σ Q) : TT y pc L (.ref k :: st) σ Q := by
  intro l D ad cA cZ p e s m args below meth c H locs ls hC hP hS hL
  obtain ⟨hd, rfl⟩ := d
  have hkk := kk l D ad cA cZ p e s m args below meth c H locs ls hC hP hS hL
  obtain ⟨⟨h1, h2⟩, h3, h4⟩ := hC.2.2.2.2.2.2.2.2.2 hw
  rcases hk with rfl | rfl
  · exact va_tlen hC.1 hC.2.1 h2 hS rfl hd hkk
  · exact va_tlen hC.1 hC.2.1 h4 hS rfl hd hkk
theorem tr_gets {k ix : Nat} {n : String} (d : DC y pc (.getstatic ix) 3 pc') (hw : y.2.2.2.2.2 = 0) (hk : (k = 100 ∧ n = "FREIGHT_ORDER") ∨ (k = 101 ∧ n = "COMMON_ORDER")) (hl : tLF y.1.cls ix "ApronDesk" n "[I") (kk : TT y pc' L (.ref k :: st) σ Q) : TT y pc L st σ Q := by
  intro l D ad cA cZ p e s m args below meth c H locs ls hC hP hS hL
  obtain ⟨hd, rfl⟩ := d
  have hkk := kk l D ad cA cZ p e s m args below meth c H locs ls hC hP hS hL
  obtain ⟨⟨h1, h2⟩, h3, h4⟩ := hC.2.2.2.2.2.2.2.2.2 hw
  have hTB := hC.2.2.2.2.2.2.1
  rcases hk with ⟨rfl, rfl⟩ | ⟨rfl, rfl⟩ <;> rcases hl with hl | hl
  · exact va_gets hC.1 hC.2.1 h1 hS hC.2.2.2.2.2.1 (tTB.use hTB hl) (fun _ h => h) hd hkk
  · exact va_getsN hC.1 hC.2.1 h1 hS hC.2.2.2.2.2.1 (tTB.use hTB hl) (fun _ h => h) hd hkk
  · exact va_gets hC.1 hC.2.1 h3 hS hC.2.2.2.2.2.1 (tTB.use hTB hl) (fun _ h => h) hd hkk
  · exact va_getsN hC.1 hC.2.1 h3 hS hC.2.2.2.2.2.1 (tTB.use hTB hl) (fun _ h => h) hd hkk
theorem tr_tabIn {dflt lo hi : Int} {offs : Array Int} {len : Nat} {x : Int32} {off : Int} (d : decode y.2.1 pc = .ok (.tableswitch dflt lo hi offs, len)) (h1 : ¬ x.toInt < lo) (h2 : ¬ hi < x.toInt) (ho : offs[(x.toInt - lo).toNat]? = some off) (ht : (pc : Int) + off = (tgt : Int)) (k : TT y tgt L st σ Q) : TT y pc L (.int x :: st) σ Q := by
  intro l D ad cA cZ p e s m args below meth c H locs ls hC hP hS hL
  exact lv_tableIn hC.1 hC.2.1 d h1 h2 ho ht (k l D ad cA cZ p e s m args below meth c H locs ls hC hP hS hL)
theorem tr_tabOut {dflt lo hi : Int} {offs : Array Int} {len : Nat} {x : Int32} (d : decode y.2.1 pc = .ok (.tableswitch dflt lo hi offs, len)) (h : x.toInt < lo ∨ hi < x.toInt) (ht : (pc : Int) + dflt = (tgt : Int)) (k : TT y tgt L st σ Q) : TT y pc L (.int x :: st) σ Q := by
  intro l D ad cA cZ p e s m args below meth c H locs ls hC hP hS hL
  exact lv_tableOut hC.1 hC.2.1 d h ht (k l D ad cA cZ p e s m args below meth c H locs ls hC hP hS hL)
theorem cv_sum (ad : Nat → Nat) (st : List Value) : ((st.map (cv ad)).map fun v => v.category).sum = (st.map fun v => v.category).sum := by
  rw [List.map_map]
  exact congrArg List.sum (List.map_congr_left fun v _ => cv_cat ad v)
theorem tr_max {a b : Int32} {ix : Nat} (d : DC y pc (.invokestatic ix) 3 pc') (hl : tWD (.methodLink y.1.cls ix Lib.Math.max.name)) (h1 : tWD (.static Lib.Math.max.name)) (h2 : tWD (.initialized "java/lang/Math")) (h3 : tWD (.code Lib.Math.max.name Lib.Math.max.code 2 (some .int))) (hR : 1 ≤ y.2.2.2.2.1.frames) (hR2 : (st.map fun v => v.category).sum + 13 ≤ y.2.2.2.2.1.locals) (kk : TT y pc' L (.int (if a < b then b else a) :: st) σ Q) : TT y pc L (.int b :: .int a :: st) σ Q := by
  intro l D ad cA cZ p e s m args below meth c H locs ls hC hP hS hL
  obtain ⟨hd, rfl⟩ := d
  have hTB := hC.2.2.2.2.2.2.1
  exact va_mmax hC.1 hC.2.1 (hC.2.2.1.trans hL.1.symm) hC.2.2.2.2.2.1 (tTB.use hTB hl) (tTB.use hTB h1) (tTB.use hTB h2) (tTB.use hTB h3) hR (by rw [cv_sum]; exact hR2) (Nat.zero_le _) (Nat.zero_le _) hd (kk l D ad cA cZ p e s m args below meth c H locs ls hC hP hS hL)
theorem tr_min {a b : Int32} {ix : Nat} (d : DC y pc (.invokestatic ix) 3 pc') (hl : tWD (.methodLink y.1.cls ix Lib.Math.min.name)) (h1 : tWD (.static Lib.Math.min.name)) (h2 : tWD (.initialized "java/lang/Math")) (h3 : tWD (.code Lib.Math.min.name Lib.Math.min.code 2 (some .int))) (hR : 1 ≤ y.2.2.2.2.1.frames) (hR2 : (st.map fun v => v.category).sum + 13 ≤ y.2.2.2.2.1.locals) (kk : TT y pc' L (.int (if b < a then b else a) :: st) σ Q) : TT y pc L (.int b :: .int a :: st) σ Q := by
  intro l D ad cA cZ p e s m args below meth c H locs ls hC hP hS hL
  obtain ⟨hd, rfl⟩ := d
  have hTB := hC.2.2.2.2.2.2.1
  exact va_mmin hC.1 hC.2.1 (hC.2.2.1.trans hL.1.symm) hC.2.2.2.2.2.1 (tTB.use hTB hl) (tTB.use hTB h1) (tTB.use hTB h2) (tTB.use hTB h3) hR (by rw [cv_sum]; exact hR2) (Nat.zero_le _) (Nat.zero_le _) hd (kk l D ad cA cZ p e s m args below meth c H locs ls hC hP hS hL)
end THEAP
end
section
/-! CALLS -/
theorem tPX.as {w : Nat} {D : va_G} {ad : Nat → Nat} {cA cZ : ClassId} {σ : tSt} {sz : Nat} {U V : State} (hv : U.vm = V.vm) (hh : U.heap = V.heap) (h : tPX w D ad cA cZ σ sz U) : tPX w D ad cA cZ σ sz V := by
  obtain ⟨h1, h2, h3, h4, h5, h6⟩ := h
  have ha : U.vm.Alike V.vm := by rw [hv]; exact Vm.Alike.refl _
  refine ⟨by rw [← hh]; exact h1, h2.same hv, va_K.moved ha h3, h4, by rw [← hh]; exact h5, fun hw => ?_⟩
  obtain ⟨⟨a1, a2⟩, a3, a4⟩ := h6 hw
  rw [← hh]
  exact ⟨⟨va_Z.moved ha a1, va_T.moved ha a2⟩, va_Z.moved ha a3, va_T.moved ha a4⟩
theorem tAW_in {n : Nat} {ad : Nat → Nat} {a b q : Nat} (h : tAW n ad b q) (hab : a ≤ b) : tAW n ad a q := h.elim Or.inl (fun z => Or.inr (Nat.le_trans hab z))
theorem tPX.call {y : tMS} {D : va_G} {ad : Nat → Nat} {cA cZ : ClassId} {p : Program} {s : State} {m : MethodId} {meth : Method} {c : Code} {σ : tSt} {H : Heap} {locs : List Loc} (hC : tCX y D ad cA cZ p s m meth c) (hP : va_P D vwCl (tpic ad cA cZ (shp y.2.2.2.2.2) σ) H) (hS : va_S (tAW (shp y.2.2.2.2.2).length ad s.heap.size) s.heap H locs) {U : State} (hU : U.heap = H) (hW : s.WarmedH U.vm) : tPX y.2.2.2.2.2 D ad cA cZ σ H.size U := by
  obtain ⟨-, -, -, -, -, -, hTB, hK, hI, hF⟩ := hC
  have ha : s.vm.Alike U.vm := hW.alike
  refine ⟨by rw [hU], hTB.warm hW, va_K.moved ha hK, hI, by rw [hU]; exact hP, fun hw => ?_⟩
  obtain ⟨⟨a1, a2⟩, a3, a4⟩ := hF hw
  rw [hU]
  exact ⟨⟨((a1.kept hS.2.1).moved ha).narrow (fun q h => tAW_in h hS.1), ((a2.kept hS.2.1).moved ha).narrow (fun q h => tAW_in h hS.1)⟩, ((a3.kept hS.2.1).moved ha).narrow (fun q h => tAW_in h hS.1), ((a4.kept hS.2.1).moved ha).narrow (fun q h => tAW_in h hS.1)⟩
def tZV (z : tMS) (n : Nat) : Prop := tWD (.code z.1 z.2.1 z.2.2.1 z.2.2.2.1) ∧ tWD (.initialized z.1.cls) ∧ (z.1.cls ≠ "java/lang/invoke/MethodHandle" ∧ z.1.cls ≠ "java/lang/invoke/VarHandle") ∧ (parseMethodDescriptor z.1.desc).map (fun d => d.parameters.length) = some n ∧ z.2.2.2.2.1.cells = 0 ∧ z.2.2.2.2.1.slots = 0
def tZI (z : tMS) : Prop := tWD (.instanceMethod z.1) ∧ tWD (.selects z.1.cls z.1 z.1)
def tLK (own : String) (ix : Nat) (z : tMS) : Prop := tWD (.methodLink own ix z.1) ∨ tWD (.methodLinkNest own ix z.1 "ApronDesk")
def tRM (y z : tMS) : Prop := y.2.2.2.2.2 = z.2.2.2.2.2 ∧ z.2.2.2.2.1.frames + 1 ≤ y.2.2.2.2.1.frames ∧ 8 + (z.2.2.1 + 11) + z.2.2.2.2.1.locals ≤ y.2.2.2.2.1.locals
section TCALL
variable {y z : tMS} {pc pc' tgt : Nat} {L st : List Value} {σ : tSt} {Q Q' : Option Int32 → tSt → Prop}
theorem tTail {p : Program} {l : Launch} {e : Env} {s : State} {m : MethodId} {args : Array Value} {below : List Frame} {meth : Method} {c : Code} {H : Heap} {locs : List Loc} {ls : Array Slot} {D : va_G} {ad : Nat → Nat} {cA cZ : ClassId} {st0 : List Value} {a : Array Value}
    (hC : tCX y D ad cA cZ p s m meth c) (hS : va_S (tAW (shp y.2.2.2.2.2).length ad s.heap.size) s.heap H locs) (hL : tLR ad ls y.2.2.1 L)
    (hr : va_Run p l e y.2.2.2.2.1 s m args below meth c H locs 0 0 0 0 (F0 m pc ls st0) (st.map (cv ad)) (tQR y.2.2.2.2.2 D ad cA cZ Q' a) (tAW (shp y.2.2.2.2.2).length ad H.size))
    (kk : ∀ r σ', Q' r σ' → TT y (pc + 3) L (psh r st) σ' Q) :
    W p l e y.2.2.2.2.1 s m args below meth c H locs 0 0 (MQ below (tQR y.2.2.2.2.2 D ad cA cZ Q) args s 0 0 (tAW (shp y.2.2.2.2.2).length ad s.heap.size)) (F0 m pc ls st0) := by
  intro T hT X
  obtain ⟨v, st₀, t, T', Lc, h0, X', hLc, e1, e2, ⟨⟨r, σ', hv, hq, hP'⟩, hz, hk⟩, stp⟩ := hr T hT X
  rw [h0] at hz hk
  have hv' : v = r.map Value.int := Outcome.returned.inj hv
  subst hv'
  have hS' : va_S (tAW (shp y.2.2.2.2.2).length ad s.heap.size) s.heap T'.heap (locs ++ Lc) := by
    refine ⟨Nat.le_trans hS.1 (by rw [e1]; exact hz), fun q h1 h2 => ?_, fun q hq => ?_⟩
    · rw [e1, hk q (Nat.lt_of_lt_of_le h1 hS.1) (fun z => h2 (tAW_in z hS.1))]
      exact hS.2.1 q h1 h2
    · rcases List.mem_append.mp hq with h | h
      · exact hS.2.2 q h
      · exact tAW_in (hLc q h) hS.1
  obtain ⟨t2, a1, b1⟩ := kk r σ' hq l D ad cA cZ p e s m args below meth c T'.heap (locs ++ Lc) ls hC (by rw [e1]; exact hP') hS' hL T' rfl X'
  refine ⟨t2, stp t2 ?_, b1⟩
  cases r <;> exact a1
theorem tr_callA {as : List Value} {k ix n ci : Nat} {fs : List (Option Nat)} {T : u_T} {N : Nat} (d : DC y pc (.invokevirtual ix) 3 pc') (hz : tZV z n) (hzi : tZI z) (hl : tLK y.1.cls ix z) (hR : tRM y z) (hs : (shp z.2.2.2.2.2)[k]? = some (.inr (ci, fs))) (hcl : vwCl[ci]? = some (z.1.cls, T, N)) (hn : as.length = n) (hst : Nat.ble (st.map fun v => v.category).sum 8 = true)
    (hc : CT z (.ref k :: as) σ Q') (kk : ∀ r σ', Q' r σ' → TT y pc' L (psh r st) σ' Q) : TT y pc L (as.reverse ++ .ref k :: st) σ Q := by
  obtain ⟨hd, rfl⟩ := d
  intro l D ad cA cZ p e s m args below meth c H locs ls hC hP hS hL
  have hM := hc l D ad cA cZ H.size
  obtain ⟨hw, hR1, hR2⟩ := hR
  obtain ⟨z1, z2, z3, z4, z5, z6⟩ := hz
  have hTB := hC.2.2.2.2.2.2.1
  rw [← hw] at hM hs
  have hblind : FrameBlind (va_Pc ((Value.ref k :: as).map (cv ad)) (tPX y.2.2.2.2.2 D ad cA cZ σ H.size)) := fun a U g mk q => ⟨q.1, tPX.as (U := U) rfl rfl q.2⟩
  have hrecv := va_recv hC.2.2.2.2.2.2.2.1 hP hcl (tpic_at hs)
  have hpre : PreV s H z.1.cls (ad k) (va_Pc ((Value.ref k :: as).map (cv ad)) (tPX y.2.2.2.2.2 D ad cA cZ σ H.size)) (as.map (cv ad)) := ⟨hblind, hrecv, fun U hU hW => ⟨rfl, tPX.call hC hP hS hU hW⟩⟩
  have hlen : ∀ sig, parseMethodDescriptor z.1.desc = some sig → n = sig.parameters.length := fun sig h => by
    rw [h] at z4; exact (Option.some.inj z4).symm
  have hwarm : ∀ w ∈ [Cond.code z.1 z.2.1 z.2.2.1 z.2.2.2.1], ∀ (a' : Array Value) (U : State), s.WarmedH U.vm → w.before a' U = true := fun w hw a' U hW => by
    rw [List.mem_singleton] at hw; subst hw; exact tTB.use (hTB.warm hW) z1
  have hstk : (F0 m pc ls ((as.reverse ++ .ref k :: st).map (cv ad))).stack = (as.map (cv ad)).reverse ++ .ref (ad k) :: st.map (cv ad) := by
    simp [cv]
  have hW8 : 2 * (F0 m pc ls ((as.reverse ++ .ref k :: st).map (cv ad))).monitorRoom + ((st.map (cv ad)).map fun v => v.category).sum ≤ 8 := by
    rw [cv_sum]
    exact Nat.le_trans (by simp) (Nat.le_of_ble_eq_true hst)
  have hfix : CallFix p m c y.2.1 y.2.2.1 s args [] y.1.cls := ⟨hC.1, hC.2.1, hC.2.2.1, hC.2.2.2.2.2.1, fun w h => by cases h⟩
  refine tTail (a := (Value.ref (ad k) :: as.map (cv ad)).toArray) hC hS hL ?_ kk
  rcases hl with hl | hl
  · exact va_runV hfix hM ⟨⟨z5, z6, hR1, hR2, hwarm, List.mem_singleton_self _, tTB.use hTB z1, tTB.use hTB z2, z3, hlen, tTB.use hTB hl⟩, tTB.use hTB hzi.1, tTB.use hTB hzi.2⟩ hpre rfl (by simpa using hn) hL.1 hstk hW8 hd ⟨Nat.zero_le _, Nat.zero_le _⟩
  · exact va_runVN hfix hM ⟨⟨⟨z5, z6, hR1, hR2, hwarm, List.mem_singleton_self _⟩, tTB.use hTB z1, tTB.use hTB z2, z3, hlen, tTB.use hTB hl⟩, tTB.use hTB hzi.1, tTB.use hTB hzi.2⟩ hpre rfl (by simpa using hn) hL.1 hstk hW8 hd ⟨Nat.zero_le _, Nat.zero_le _⟩
theorem tr_callS {as : List Value} {ix n : Nat} (d : DC y pc (.invokestatic ix) 3 pc') (hz : tZV z n) (hzi : tWD (.static z.1)) (hl : tLK y.1.cls ix z) (hR : tRM y z) (hn : as.length = n) (hst : Nat.ble (st.map fun v => v.category).sum 8 = true)
    (hc : CT z as σ Q') (kk : ∀ r σ', Q' r σ' → TT y pc' L (psh r st) σ' Q) : TT y pc L (as.reverse ++ st) σ Q := by
  obtain ⟨hd, rfl⟩ := d
  intro l D ad cA cZ p e s m args below meth c H locs ls hC hP hS hL
  have hM := hc l D ad cA cZ H.size
  obtain ⟨hw, hR1, hR2⟩ := hR
  obtain ⟨z1, z2, z3, z4, z5, z6⟩ := hz
  have hTB := hC.2.2.2.2.2.2.1
  rw [← hw] at hM
  have hblind : FrameBlind (va_Pc (as.map (cv ad)) (tPX y.2.2.2.2.2 D ad cA cZ σ H.size)) := fun a U g mk q => ⟨q.1, tPX.as (U := U) rfl rfl q.2⟩
  have hpre : PreS s H (va_Pc (as.map (cv ad)) (tPX y.2.2.2.2.2 D ad cA cZ σ H.size)) (as.map (cv ad)) := ⟨hblind, fun U hU hW => ⟨rfl, tPX.call hC hP hS hU hW⟩⟩
  have hlen : ∀ sig, parseMethodDescriptor z.1.desc = some sig → n = sig.parameters.length := fun sig h => by
    rw [h] at z4; exact (Option.some.inj z4).symm
  have hwarm : ∀ w ∈ [Cond.code z.1 z.2.1 z.2.2.1 z.2.2.2.1], ∀ (a' : Array Value) (U : State), s.WarmedH U.vm → w.before a' U = true := fun w hw a' U hW => by
    rw [List.mem_singleton] at hw; subst hw; exact tTB.use (hTB.warm hW) z1
  have hstk : (F0 m pc ls ((as.reverse ++ st).map (cv ad))).stack = (as.map (cv ad)).reverse ++ st.map (cv ad) := by
    simp
  have hW8 : 2 * (F0 m pc ls ((as.reverse ++ st).map (cv ad))).monitorRoom + ((st.map (cv ad)).map fun v => v.category).sum ≤ 8 := by
    rw [cv_sum]
    exact Nat.le_trans (by simp) (Nat.le_of_ble_eq_true hst)
  have hfix : CallFix p m c y.2.1 y.2.2.1 s args [] y.1.cls := ⟨hC.1, hC.2.1, hC.2.2.1, hC.2.2.2.2.2.1, fun w h => by cases h⟩
  refine tTail (a := (as.map (cv ad)).toArray) hC hS hL ?_ kk
  rcases hl with hl | hl
  · exact va_runS hfix hM ⟨⟨z5, z6, hR1, hR2, hwarm, List.mem_singleton_self _, tTB.use hTB z1, tTB.use hTB z2, z3, hlen, tTB.use hTB hl⟩, tTB.use hTB hzi⟩ hpre rfl (by simpa using hn) hL.1 hstk hW8 hd ⟨Nat.zero_le _, Nat.zero_le _⟩
  · exact va_runSN hfix hM ⟨⟨⟨z5, z6, hR1, hR2, hwarm, List.mem_singleton_self _⟩, tTB.use hTB z1, tTB.use hTB z2, z3, hlen, tTB.use hTB hl⟩, tTB.use hTB hzi, trivial⟩ hpre rfl (by simpa using hn) hL.1 hstk hW8 hd ⟨Nat.zero_le _, Nat.zero_le _⟩
/-- the answer and the store, told -/
def PE (r : Option Int32) (σ : tSt) : Option Int32 → tSt → Prop := fun r' σ' => r' = r ∧ σ' = σ
theorem tr_cv0 {k ix ci : Nat} {fs : List (Option Nat)} {T : u_T} {N : Nat} {r0 : Option Int32} {σ1 : tSt} (dd : DC y pc (.invokevirtual ix) 3 pc') (hz : tZV z 0) (hzi : tZI z) (hl : tLK y.1.cls ix z) (hR : tRM y z) (hs : (shp z.2.2.2.2.2)[k]? = some (.inr (ci, fs))) (hcl : vwCl[ci]? = some (z.1.cls, T, N)) (hst : Nat.ble (st.map fun v => v.category).sum 8 = true) (hc : CT z [.ref k] σ Q') (kk : ∀ r σ', Q' r σ' → TT y pc' L (psh r st) σ' Q) : TT y pc L (.ref k :: st) σ Q := tr_callA (as := []) dd hz hzi hl hR hs hcl rfl hst hc kk
theorem tr_ce0 {k ix ci : Nat} {fs : List (Option Nat)} {T : u_T} {N : Nat} {r0 : Option Int32} {σ1 : tSt} (dd : DC y pc (.invokevirtual ix) 3 pc') (hz : tZV z 0) (hzi : tZI z) (hl : tLK y.1.cls ix z) (hR : tRM y z) (hs : (shp z.2.2.2.2.2)[k]? = some (.inr (ci, fs))) (hcl : vwCl[ci]? = some (z.1.cls, T, N)) (hst : Nat.ble (st.map fun v => v.category).sum 8 = true) (hc : CT z [.ref k] σ (PE r0 σ1)) (kk : TT y pc' L (psh r0 st) σ1 Q) : TT y pc L (.ref k :: st) σ Q := tr_callA (as := []) dd hz hzi hl hR hs hcl rfl hst hc (fun r σ' h => by obtain ⟨rfl, rfl⟩ := h; exact kk)
theorem tr_cv1 {a : Value} {k ix ci : Nat} {fs : List (Option Nat)} {T : u_T} {N : Nat} {r0 : Option Int32} {σ1 : tSt} (dd : DC y pc (.invokevirtual ix) 3 pc') (hz : tZV z 1) (hzi : tZI z) (hl : tLK y.1.cls ix z) (hR : tRM y z) (hs : (shp z.2.2.2.2.2)[k]? = some (.inr (ci, fs))) (hcl : vwCl[ci]? = some (z.1.cls, T, N)) (hst : Nat.ble (st.map fun v => v.category).sum 8 = true) (hc : CT z [.ref k, a] σ Q') (kk : ∀ r σ', Q' r σ' → TT y pc' L (psh r st) σ' Q) : TT y pc L (a :: .ref k :: st) σ Q := tr_callA (as := [a]) dd hz hzi hl hR hs hcl rfl hst hc kk
theorem tr_ce1 {a : Value} {k ix ci : Nat} {fs : List (Option Nat)} {T : u_T} {N : Nat} {r0 : Option Int32} {σ1 : tSt} (dd : DC y pc (.invokevirtual ix) 3 pc') (hz : tZV z 1) (hzi : tZI z) (hl : tLK y.1.cls ix z) (hR : tRM y z) (hs : (shp z.2.2.2.2.2)[k]? = some (.inr (ci, fs))) (hcl : vwCl[ci]? = some (z.1.cls, T, N)) (hst : Nat.ble (st.map fun v => v.category).sum 8 = true) (hc : CT z [.ref k, a] σ (PE r0 σ1)) (kk : TT y pc' L (psh r0 st) σ1 Q) : TT y pc L (a :: .ref k :: st) σ Q := tr_callA (as := [a]) dd hz hzi hl hR hs hcl rfl hst hc (fun r σ' h => by obtain ⟨rfl, rfl⟩ := h; exact kk)
theorem tr_se1 {a : Value} {ix : Nat} {r0 : Option Int32} {σ1 : tSt} (dd : DC y pc (.invokestatic ix) 3 pc') (hz : tZV z 1) (hzi : tWD (.static z.1)) (hl : tLK y.1.cls ix z) (hR : tRM y z) (hst : Nat.ble (st.map fun v => v.category).sum 8 = true) (hc : CT z [a] σ (PE r0 σ1)) (kk : TT y pc' L (psh r0 st) σ1 Q) : TT y pc L (a :: st) σ Q := tr_callS (as := [a]) dd hz hzi hl hR rfl hst hc (fun r σ' h => by obtain ⟨rfl, rfl⟩ := h; exact kk)
theorem tr_cv2 {a b : Value} {k ix ci : Nat} {fs : List (Option Nat)} {T : u_T} {N : Nat} {r0 : Option Int32} {σ1 : tSt} (dd : DC y pc (.invokevirtual ix) 3 pc') (hz : tZV z 2) (hzi : tZI z) (hl : tLK y.1.cls ix z) (hR : tRM y z) (hs : (shp z.2.2.2.2.2)[k]? = some (.inr (ci, fs))) (hcl : vwCl[ci]? = some (z.1.cls, T, N)) (hst : Nat.ble (st.map fun v => v.category).sum 8 = true) (hc : CT z [.ref k, a, b] σ Q') (kk : ∀ r σ', Q' r σ' → TT y pc' L (psh r st) σ' Q) : TT y pc L (b :: a :: .ref k :: st) σ Q := tr_callA (as := [a, b]) dd hz hzi hl hR hs hcl rfl hst hc kk
theorem tr_ce2 {a b : Value} {k ix ci : Nat} {fs : List (Option Nat)} {T : u_T} {N : Nat} {r0 : Option Int32} {σ1 : tSt} (dd : DC y pc (.invokevirtual ix) 3 pc') (hz : tZV z 2) (hzi : tZI z) (hl : tLK y.1.cls ix z) (hR : tRM y z) (hs : (shp z.2.2.2.2.2)[k]? = some (.inr (ci, fs))) (hcl : vwCl[ci]? = some (z.1.cls, T, N)) (hst : Nat.ble (st.map fun v => v.category).sum 8 = true) (hc : CT z [.ref k, a, b] σ (PE r0 σ1)) (kk : TT y pc' L (psh r0 st) σ1 Q) : TT y pc L (b :: a :: .ref k :: st) σ Q := tr_callA (as := [a, b]) dd hz hzi hl hR hs hcl rfl hst hc (fun r σ' h => by obtain ⟨rfl, rfl⟩ := h; exact kk)
theorem tr_se2 {a b : Value} {ix : Nat} {r0 : Option Int32} {σ1 : tSt} (dd : DC y pc (.invokestatic ix) 3 pc') (hz : tZV z 2) (hzi : tWD (.static z.1)) (hl : tLK y.1.cls ix z) (hR : tRM y z) (hst : Nat.ble (st.map fun v => v.category).sum 8 = true) (hc : CT z [a, b] σ (PE r0 σ1)) (kk : TT y pc' L (psh r0 st) σ1 Q) : TT y pc L (b :: a :: st) σ Q := tr_callS (as := [a, b]) dd hz hzi hl hR rfl hst hc (fun r σ' h => by obtain ⟨rfl, rfl⟩ := h; exact kk)
theorem tr_cv3 {a b c : Value} {k ix ci : Nat} {fs : List (Option Nat)} {T : u_T} {N : Nat} {r0 : Option Int32} {σ1 : tSt} (dd : DC y pc (.invokevirtual ix) 3 pc') (hz : tZV z 3) (hzi : tZI z) (hl : tLK y.1.cls ix z) (hR : tRM y z) (hs : (shp z.2.2.2.2.2)[k]? = some (.inr (ci, fs))) (hcl : vwCl[ci]? = some (z.1.cls, T, N)) (hst : Nat.ble (st.map fun v => v.category).sum 8 = true) (hc : CT z [.ref k, a, b, c] σ Q') (kk : ∀ r σ', Q' r σ' → TT y pc' L (psh r st) σ' Q) : TT y pc L (c :: b :: a :: .ref k :: st) σ Q := tr_callA (as := [a, b, c]) dd hz hzi hl hR hs hcl rfl hst hc kk
theorem tr_ce3 {a b c : Value} {k ix ci : Nat} {fs : List (Option Nat)} {T : u_T} {N : Nat} {r0 : Option Int32} {σ1 : tSt} (dd : DC y pc (.invokevirtual ix) 3 pc') (hz : tZV z 3) (hzi : tZI z) (hl : tLK y.1.cls ix z) (hR : tRM y z) (hs : (shp z.2.2.2.2.2)[k]? = some (.inr (ci, fs))) (hcl : vwCl[ci]? = some (z.1.cls, T, N)) (hst : Nat.ble (st.map fun v => v.category).sum 8 = true) (hc : CT z [.ref k, a, b, c] σ (PE r0 σ1)) (kk : TT y pc' L (psh r0 st) σ1 Q) : TT y pc L (c :: b :: a :: .ref k :: st) σ Q := tr_callA (as := [a, b, c]) dd hz hzi hl hR hs hcl rfl hst hc (fun r σ' h => by obtain ⟨rfl, rfl⟩ := h; exact kk)
theorem tr_se3 {a b c : Value} {ix : Nat} {r0 : Option Int32} {σ1 : tSt} (dd : DC y pc (.invokestatic ix) 3 pc') (hz : tZV z 3) (hzi : tWD (.static z.1)) (hl : tLK y.1.cls ix z) (hR : tRM y z) (hst : Nat.ble (st.map fun v => v.category).sum 8 = true) (hc : CT z [a, b, c] σ (PE r0 σ1)) (kk : TT y pc' L (psh r0 st) σ1 Q) : TT y pc L (c :: b :: a :: st) σ Q := tr_callS (as := [a, b, c]) dd hz hzi hl hR rfl hst hc (fun r σ' h => by obtain ⟨rfl, rfl⟩ := h; exact kk)
theorem tr_cv4 {a b c d : Value} {k ix ci : Nat} {fs : List (Option Nat)} {T : u_T} {N : Nat} {r0 : Option Int32} {σ1 : tSt} (dd : DC y pc (.invokevirtual ix) 3 pc') (hz : tZV z 4) (hzi : tZI z) (hl : tLK y.1.cls ix z) (hR : tRM y z) (hs : (shp z.2.2.2.2.2)[k]? = some (.inr (ci, fs))) (hcl : vwCl[ci]? = some (z.1.cls, T, N)) (hst : Nat.ble (st.map fun v => v.category).sum 8 = true) (hc : CT z [.ref k, a, b, c, d] σ Q') (kk : ∀ r σ', Q' r σ' → TT y pc' L (psh r st) σ' Q) : TT y pc L (d :: c :: b :: a :: .ref k :: st) σ Q := tr_callA (as := [a, b, c, d]) dd hz hzi hl hR hs hcl rfl hst hc kk
theorem tr_ce4 {a b c d : Value} {k ix ci : Nat} {fs : List (Option Nat)} {T : u_T} {N : Nat} {r0 : Option Int32} {σ1 : tSt} (dd : DC y pc (.invokevirtual ix) 3 pc') (hz : tZV z 4) (hzi : tZI z) (hl : tLK y.1.cls ix z) (hR : tRM y z) (hs : (shp z.2.2.2.2.2)[k]? = some (.inr (ci, fs))) (hcl : vwCl[ci]? = some (z.1.cls, T, N)) (hst : Nat.ble (st.map fun v => v.category).sum 8 = true) (hc : CT z [.ref k, a, b, c, d] σ (PE r0 σ1)) (kk : TT y pc' L (psh r0 st) σ1 Q) : TT y pc L (d :: c :: b :: a :: .ref k :: st) σ Q := tr_callA (as := [a, b, c, d]) dd hz hzi hl hR hs hcl rfl hst hc (fun r σ' h => by obtain ⟨rfl, rfl⟩ := h; exact kk)
theorem tr_se4 {a b c d : Value} {ix : Nat} {r0 : Option Int32} {σ1 : tSt} (dd : DC y pc (.invokestatic ix) 3 pc') (hz : tZV z 4) (hzi : tWD (.static z.1)) (hl : tLK y.1.cls ix z) (hR : tRM y z) (hst : Nat.ble (st.map fun v => v.category).sum 8 = true) (hc : CT z [a, b, c, d] σ (PE r0 σ1)) (kk : TT y pc' L (psh r0 st) σ1 Q) : TT y pc L (d :: c :: b :: a :: st) σ Q := tr_callS (as := [a, b, c, d]) dd hz hzi hl hR rfl hst hc (fun r σ' h => by obtain ⟨rfl, rfl⟩ := h; exact kk)
theorem tr_cv5 {a b c d e : Value} {k ix ci : Nat} {fs : List (Option Nat)} {T : u_T} {N : Nat} {r0 : Option Int32} {σ1 : tSt} (dd : DC y pc (.invokevirtual ix) 3 pc') (hz : tZV z 5) (hzi : tZI z) (hl : tLK y.1.cls ix z) (hR : tRM y z) (hs : (shp z.2.2.2.2.2)[k]? = some (.inr (ci, fs))) (hcl : vwCl[ci]? = some (z.1.cls, T, N)) (hst : Nat.ble (st.map fun v => v.category).sum 8 = true) (hc : CT z [.ref k, a, b, c, d, e] σ Q') (kk : ∀ r σ', Q' r σ' → TT y pc' L (psh r st) σ' Q) : TT y pc L (e :: d :: c :: b :: a :: .ref k :: st) σ Q := tr_callA (as := [a, b, c, d, e]) dd hz hzi hl hR hs hcl rfl hst hc kk
theorem tr_ce5 {a b c d e : Value} {k ix ci : Nat} {fs : List (Option Nat)} {T : u_T} {N : Nat} {r0 : Option Int32} {σ1 : tSt} (dd : DC y pc (.invokevirtual ix) 3 pc') (hz : tZV z 5) (hzi : tZI z) (hl : tLK y.1.cls ix z) (hR : tRM y z) (hs : (shp z.2.2.2.2.2)[k]? = some (.inr (ci, fs))) (hcl : vwCl[ci]? = some (z.1.cls, T, N)) (hst : Nat.ble (st.map fun v => v.category).sum 8 = true) (hc : CT z [.ref k, a, b, c, d, e] σ (PE r0 σ1)) (kk : TT y pc' L (psh r0 st) σ1 Q) : TT y pc L (e :: d :: c :: b :: a :: .ref k :: st) σ Q := tr_callA (as := [a, b, c, d, e]) dd hz hzi hl hR hs hcl rfl hst hc (fun r σ' h => by obtain ⟨rfl, rfl⟩ := h; exact kk)
theorem tr_cv6 {a b c d e f : Value} {k ix ci : Nat} {fs : List (Option Nat)} {T : u_T} {N : Nat} {r0 : Option Int32} {σ1 : tSt} (dd : DC y pc (.invokevirtual ix) 3 pc') (hz : tZV z 6) (hzi : tZI z) (hl : tLK y.1.cls ix z) (hR : tRM y z) (hs : (shp z.2.2.2.2.2)[k]? = some (.inr (ci, fs))) (hcl : vwCl[ci]? = some (z.1.cls, T, N)) (hst : Nat.ble (st.map fun v => v.category).sum 8 = true) (hc : CT z [.ref k, a, b, c, d, e, f] σ Q') (kk : ∀ r σ', Q' r σ' → TT y pc' L (psh r st) σ' Q) : TT y pc L (f :: e :: d :: c :: b :: a :: .ref k :: st) σ Q := tr_callA (as := [a, b, c, d, e, f]) dd hz hzi hl hR hs hcl rfl hst hc kk
theorem tr_ce6 {a b c d e f : Value} {k ix ci : Nat} {fs : List (Option Nat)} {T : u_T} {N : Nat} {r0 : Option Int32} {σ1 : tSt} (dd : DC y pc (.invokevirtual ix) 3 pc') (hz : tZV z 6) (hzi : tZI z) (hl : tLK y.1.cls ix z) (hR : tRM y z) (hs : (shp z.2.2.2.2.2)[k]? = some (.inr (ci, fs))) (hcl : vwCl[ci]? = some (z.1.cls, T, N)) (hst : Nat.ble (st.map fun v => v.category).sum 8 = true) (hc : CT z [.ref k, a, b, c, d, e, f] σ (PE r0 σ1)) (kk : TT y pc' L (psh r0 st) σ1 Q) : TT y pc L (f :: e :: d :: c :: b :: a :: .ref k :: st) σ Q := tr_callA (as := [a, b, c, d, e, f]) dd hz hzi hl hR hs hcl rfl hst hc (fun r σ' h => by obtain ⟨rfl, rfl⟩ := h; exact kk)
theorem tr_cv7 {a b c d e f g : Value} {k ix ci : Nat} {fs : List (Option Nat)} {T : u_T} {N : Nat} {r0 : Option Int32} {σ1 : tSt} (dd : DC y pc (.invokevirtual ix) 3 pc') (hz : tZV z 7) (hzi : tZI z) (hl : tLK y.1.cls ix z) (hR : tRM y z) (hs : (shp z.2.2.2.2.2)[k]? = some (.inr (ci, fs))) (hcl : vwCl[ci]? = some (z.1.cls, T, N)) (hst : Nat.ble (st.map fun v => v.category).sum 8 = true) (hc : CT z [.ref k, a, b, c, d, e, f, g] σ Q') (kk : ∀ r σ', Q' r σ' → TT y pc' L (psh r st) σ' Q) : TT y pc L (g :: f :: e :: d :: c :: b :: a :: .ref k :: st) σ Q := tr_callA (as := [a, b, c, d, e, f, g]) dd hz hzi hl hR hs hcl rfl hst hc kk
theorem tr_ce7 {a b c d e f g : Value} {k ix ci : Nat} {fs : List (Option Nat)} {T : u_T} {N : Nat} {r0 : Option Int32} {σ1 : tSt} (dd : DC y pc (.invokevirtual ix) 3 pc') (hz : tZV z 7) (hzi : tZI z) (hl : tLK y.1.cls ix z) (hR : tRM y z) (hs : (shp z.2.2.2.2.2)[k]? = some (.inr (ci, fs))) (hcl : vwCl[ci]? = some (z.1.cls, T, N)) (hst : Nat.ble (st.map fun v => v.category).sum 8 = true) (hc : CT z [.ref k, a, b, c, d, e, f, g] σ (PE r0 σ1)) (kk : TT y pc' L (psh r0 st) σ1 Q) : TT y pc L (g :: f :: e :: d :: c :: b :: a :: .ref k :: st) σ Q := tr_callA (as := [a, b, c, d, e, f, g]) dd hz hzi hl hR hs hcl rfl hst hc (fun r σ' h => by obtain ⟨rfl, rfl⟩ := h; exact kk)
end TCALL
end
section
/-! printed: methods, words, decode rows -/
theorem tWD_i {w : Cond} (i : Nat) (h : lw_tbl[i]? = some w) (g : gw w = true) : tWD w := ⟨List.mem_of_getElem? h, g⟩
theorem tcf0_w : ∀ w ∈ u_ws RX0 TX0 5, tWD w := by
  show ∀ w ∈ [u_lay RX0 TX0 0, u_lay RX0 TX0 1, u_lay RX0 TX0 2, u_lay RX0 TX0 3, u_lay RX0 TX0 4], tWD w
  exact List.forall_mem_cons.mpr ⟨tWD_i 314 (by decide +kernel) (by decide +kernel), List.forall_mem_cons.mpr ⟨tWD_i 316 (by decide +kernel) (by decide +kernel), List.forall_mem_cons.mpr ⟨tWD_i 318 (by decide +kernel) (by decide +kernel), List.forall_mem_cons.mpr ⟨tWD_i 320 (by decide +kernel) (by decide +kernel), List.forall_mem_cons.mpr ⟨tWD_i 322 (by decide +kernel) (by decide +kernel), List.forall_mem_nil _⟩⟩⟩⟩⟩
theorem tcf0 : tCF 0 RX0 TX0 5 tyX0 := ⟨rfl, tcf0_w, tyX0_ok, nmX0⟩
theorem tcf1_w : ∀ w ∈ u_ws RX1 TX1 12, tWD w := by
  show ∀ w ∈ [u_lay RX1 TX1 0, u_lay RX1 TX1 1, u_lay RX1 TX1 2, u_lay RX1 TX1 3, u_lay RX1 TX1 4, u_lay RX1 TX1 5, u_lay RX1 TX1 6, u_lay RX1 TX1 7, u_lay RX1 TX1 8, u_lay RX1 TX1 9, u_lay RX1 TX1 10, u_lay RX1 TX1 11], tWD w
  exact List.forall_mem_cons.mpr ⟨tWD_i 143 (by decide +kernel) (by decide +kernel), List.forall_mem_cons.mpr ⟨tWD_i 145 (by decide +kernel) (by decide +kernel), List.forall_mem_cons.mpr ⟨tWD_i 147 (by decide +kernel) (by decide +kernel), List.forall_mem_cons.mpr ⟨tWD_i 149 (by decide +kernel) (by decide +kernel), List.forall_mem_cons.mpr ⟨tWD_i 151 (by decide +kernel) (by decide +kernel), List.forall_mem_cons.mpr ⟨tWD_i 153 (by decide +kernel) (by decide +kernel), List.forall_mem_cons.mpr ⟨tWD_i 155 (by decide +kernel) (by decide +kernel), List.forall_mem_cons.mpr ⟨tWD_i 157 (by decide +kernel) (by decide +kernel), List.forall_mem_cons.mpr ⟨tWD_i 159 (by decide +kernel) (by decide +kernel), List.forall_mem_cons.mpr ⟨tWD_i 161 (by decide +kernel) (by decide +kernel), List.forall_mem_cons.mpr ⟨tWD_i 163 (by decide +kernel) (by decide +kernel), List.forall_mem_cons.mpr ⟨tWD_i 165 (by decide +kernel) (by decide +kernel), List.forall_mem_nil _⟩⟩⟩⟩⟩⟩⟩⟩⟩⟩⟩⟩
theorem tcf1 : tCF 1 RX1 TX1 12 tyX1 := ⟨rfl, tcf1_w, tyX1_ok, nmX1⟩
theorem tcf2_w : ∀ w ∈ u_ws RX2 TX2 8, tWD w := by
  show ∀ w ∈ [u_lay RX2 TX2 0, u_lay RX2 TX2 1, u_lay RX2 TX2 2, u_lay RX2 TX2 3, u_lay RX2 TX2 4, u_lay RX2 TX2 5, u_lay RX2 TX2 6, u_lay RX2 TX2 7], tWD w
  exact List.forall_mem_cons.mpr ⟨tWD_i 227 (by decide +kernel) (by decide +kernel), List.forall_mem_cons.mpr ⟨tWD_i 229 (by decide +kernel) (by decide +kernel), List.forall_mem_cons.mpr ⟨tWD_i 231 (by decide +kernel) (by decide +kernel), List.forall_mem_cons.mpr ⟨tWD_i 233 (by decide +kernel) (by decide +kernel), List.forall_mem_cons.mpr ⟨tWD_i 235 (by decide +kernel) (by decide +kernel), List.forall_mem_cons.mpr ⟨tWD_i 237 (by decide +kernel) (by decide +kernel), List.forall_mem_cons.mpr ⟨tWD_i 239 (by decide +kernel) (by decide +kernel), List.forall_mem_cons.mpr ⟨tWD_i 241 (by decide +kernel) (by decide +kernel), List.forall_mem_nil _⟩⟩⟩⟩⟩⟩⟩⟩
theorem tcf2 : tCF 2 RX2 TX2 8 tyX2 := ⟨rfl, tcf2_w, tyX2_ok, nmX2⟩
theorem tcf3_w : ∀ w ∈ u_ws RX3 TX3 2, tWD w := by
  show ∀ w ∈ [u_lay RX3 TX3 0, u_lay RX3 TX3 1], tWD w
  exact List.forall_mem_cons.mpr ⟨tWD_i 265 (by decide +kernel) (by decide +kernel), List.forall_mem_cons.mpr ⟨tWD_i 267 (by decide +kernel) (by decide +kernel), List.forall_mem_nil _⟩⟩
theorem tcf3 : tCF 3 RX3 TX3 2 tyX3 := ⟨rfl, tcf3_w, tyX3_ok, nmX3⟩
theorem tcf4_w : ∀ w ∈ u_ws RX4 TX4 9, tWD w := by
  show ∀ w ∈ [u_lay RX4 TX4 0, u_lay RX4 TX4 1, u_lay RX4 TX4 2, u_lay RX4 TX4 3, u_lay RX4 TX4 4, u_lay RX4 TX4 5, u_lay RX4 TX4 6, u_lay RX4 TX4 7, u_lay RX4 TX4 8], tWD w
  exact List.forall_mem_cons.mpr ⟨tWD_i 281 (by decide +kernel) (by decide +kernel), List.forall_mem_cons.mpr ⟨tWD_i 283 (by decide +kernel) (by decide +kernel), List.forall_mem_cons.mpr ⟨tWD_i 285 (by decide +kernel) (by decide +kernel), List.forall_mem_cons.mpr ⟨tWD_i 287 (by decide +kernel) (by decide +kernel), List.forall_mem_cons.mpr ⟨tWD_i 289 (by decide +kernel) (by decide +kernel), List.forall_mem_cons.mpr ⟨tWD_i 291 (by decide +kernel) (by decide +kernel), List.forall_mem_cons.mpr ⟨tWD_i 293 (by decide +kernel) (by decide +kernel), List.forall_mem_cons.mpr ⟨tWD_i 295 (by decide +kernel) (by decide +kernel), List.forall_mem_cons.mpr ⟨tWD_i 297 (by decide +kernel) (by decide +kernel), List.forall_mem_nil _⟩⟩⟩⟩⟩⟩⟩⟩⟩
theorem tcf4 : tCF 4 RX4 TX4 9 tyX4 := ⟨rfl, tcf4_w, tyX4_ok, nmX4⟩
theorem tcf5_w : ∀ w ∈ u_ws RX5 TX5 8, tWD w := by
  show ∀ w ∈ [u_lay RX5 TX5 0, u_lay RX5 TX5 1, u_lay RX5 TX5 2, u_lay RX5 TX5 3, u_lay RX5 TX5 4, u_lay RX5 TX5 5, u_lay RX5 TX5 6, u_lay RX5 TX5 7], tWD w
  exact List.forall_mem_cons.mpr ⟨tWD_i 193 (by decide +kernel) (by decide +kernel), List.forall_mem_cons.mpr ⟨tWD_i 195 (by decide +kernel) (by decide +kernel), List.forall_mem_cons.mpr ⟨tWD_i 197 (by decide +kernel) (by decide +kernel), List.forall_mem_cons.mpr ⟨tWD_i 199 (by decide +kernel) (by decide +kernel), List.forall_mem_cons.mpr ⟨tWD_i 201 (by decide +kernel) (by decide +kernel), List.forall_mem_cons.mpr ⟨tWD_i 203 (by decide +kernel) (by decide +kernel), List.forall_mem_cons.mpr ⟨tWD_i 205 (by decide +kernel) (by decide +kernel), List.forall_mem_cons.mpr ⟨tWD_i 207 (by decide +kernel) (by decide +kernel), List.forall_mem_nil _⟩⟩⟩⟩⟩⟩⟩⟩
theorem tcf5 : tCF 5 RX5 TX5 8 tyX5 := ⟨rfl, tcf5_w, tyX5_ok, nmX5⟩
theorem tcf6_w : ∀ w ∈ u_ws RX6 TX6 10, tWD w := by
  show ∀ w ∈ [u_lay RX6 TX6 0, u_lay RX6 TX6 1, u_lay RX6 TX6 2, u_lay RX6 TX6 3, u_lay RX6 TX6 4, u_lay RX6 TX6 5, u_lay RX6 TX6 6, u_lay RX6 TX6 7, u_lay RX6 TX6 8, u_lay RX6 TX6 9], tWD w
  exact List.forall_mem_cons.mpr ⟨tWD_i 337 (by decide +kernel) (by decide +kernel), List.forall_mem_cons.mpr ⟨tWD_i 339 (by decide +kernel) (by decide +kernel), List.forall_mem_cons.mpr ⟨tWD_i 341 (by decide +kernel) (by decide +kernel), List.forall_mem_cons.mpr ⟨tWD_i 343 (by decide +kernel) (by decide +kernel), List.forall_mem_cons.mpr ⟨tWD_i 345 (by decide +kernel) (by decide +kernel), List.forall_mem_cons.mpr ⟨tWD_i 347 (by decide +kernel) (by decide +kernel), List.forall_mem_cons.mpr ⟨tWD_i 349 (by decide +kernel) (by decide +kernel), List.forall_mem_cons.mpr ⟨tWD_i 351 (by decide +kernel) (by decide +kernel), List.forall_mem_cons.mpr ⟨tWD_i 353 (by decide +kernel) (by decide +kernel), List.forall_mem_cons.mpr ⟨tWD_i 355 (by decide +kernel) (by decide +kernel), List.forall_mem_nil _⟩⟩⟩⟩⟩⟩⟩⟩⟩⟩
theorem tcf6 : tCF 6 RX6 TX6 10 tyX6 := ⟨rfl, tcf6_w, tyX6_ok, nmX6⟩
theorem tcf7_w : ∀ w ∈ u_ws RX7 TX7 35, tWD w := by
  show ∀ w ∈ [u_lay RX7 TX7 0, u_lay RX7 TX7 1, u_lay RX7 TX7 2, u_lay RX7 TX7 3, u_lay RX7 TX7 4, u_lay RX7 TX7 5, u_lay RX7 TX7 6, u_lay RX7 TX7 7, u_lay RX7 TX7 8, u_lay RX7 TX7 9, u_lay RX7 TX7 10, u_lay RX7 TX7 11, u_lay RX7 TX7 12, u_lay RX7 TX7 13, u_lay RX7 TX7 14, u_lay RX7 TX7 15, u_lay RX7 TX7 16, u_lay RX7 TX7 17, u_lay RX7 TX7 18, u_lay RX7 TX7 19, u_lay RX7 TX7 20, u_lay RX7 TX7 21, u_lay RX7 TX7 22, u_lay RX7 TX7 23, u_lay RX7 TX7 24, u_lay RX7 TX7 25, u_lay RX7 TX7 26, u_lay RX7 TX7 27, u_lay RX7 TX7 28, u_lay RX7 TX7 29, u_lay RX7 TX7 30, u_lay RX7 TX7 31, u_lay RX7 TX7 32, u_lay RX7 TX7 33, u_lay RX7 TX7 34], tWD w
  exact List.forall_mem_cons.mpr ⟨tWD_i 847 (by decide +kernel) (by decide +kernel), List.forall_mem_cons.mpr ⟨tWD_i 849 (by decide +kernel) (by decide +kernel), List.forall_mem_cons.mpr ⟨tWD_i 851 (by decide +kernel) (by decide +kernel), List.forall_mem_cons.mpr ⟨tWD_i 853 (by decide +kernel) (by decide +kernel), List.forall_mem_cons.mpr ⟨tWD_i 855 (by decide +kernel) (by decide +kernel), List.forall_mem_cons.mpr ⟨tWD_i 857 (by decide +kernel) (by decide +kernel), List.forall_mem_cons.mpr ⟨tWD_i 859 (by decide +kernel) (by decide +kernel), List.forall_mem_cons.mpr ⟨tWD_i 861 (by decide +kernel) (by decide +kernel), List.forall_mem_cons.mpr ⟨tWD_i 863 (by decide +kernel) (by decide +kernel), List.forall_mem_cons.mpr ⟨tWD_i 865 (by decide +kernel) (by decide +kernel), List.forall_mem_cons.mpr ⟨tWD_i 867 (by decide +kernel) (by decide +kernel), List.forall_mem_cons.mpr ⟨tWD_i 869 (by decide +kernel) (by decide +kernel), List.forall_mem_cons.mpr ⟨tWD_i 871 (by decide +kernel) (by decide +kernel), List.forall_mem_cons.mpr ⟨tWD_i 873 (by decide +kernel) (by decide +kernel), List.forall_mem_cons.mpr ⟨tWD_i 875 (by decide +kernel) (by decide +kernel), List.forall_mem_cons.mpr ⟨tWD_i 877 (by decide +kernel) (by decide +kernel), List.forall_mem_cons.mpr ⟨tWD_i 879 (by decide +kernel) (by decide +kernel), List.forall_mem_cons.mpr ⟨tWD_i 881 (by decide +kernel) (by decide +kernel), List.forall_mem_cons.mpr ⟨tWD_i 883 (by decide +kernel) (by decide +kernel), List.forall_mem_cons.mpr ⟨tWD_i 885 (by decide +kernel) (by decide +kernel), List.forall_mem_cons.mpr ⟨tWD_i 887 (by decide +kernel) (by decide +kernel), List.forall_mem_cons.mpr ⟨tWD_i 889 (by decide +kernel) (by decide +kernel), List.forall_mem_cons.mpr ⟨tWD_i 891 (by decide +kernel) (by decide +kernel), List.forall_mem_cons.mpr ⟨tWD_i 893 (by decide +kernel) (by decide +kernel), List.forall_mem_cons.mpr ⟨tWD_i 895 (by decide +kernel) (by decide +kernel), List.forall_mem_cons.mpr ⟨tWD_i 897 (by decide +kernel) (by decide +kernel), List.forall_mem_cons.mpr ⟨tWD_i 899 (by decide +kernel) (by decide +kernel), List.forall_mem_cons.mpr ⟨tWD_i 901 (by decide +kernel) (by decide +kernel), List.forall_mem_cons.mpr ⟨tWD_i 903 (by decide +kernel) (by decide +kernel), List.forall_mem_cons.mpr ⟨tWD_i 905 (by decide +kernel) (by decide +kernel), List.forall_mem_cons.mpr ⟨tWD_i 907 (by decide +kernel) (by decide +kernel), List.forall_mem_cons.mpr ⟨tWD_i 909 (by decide +kernel) (by decide +kernel), List.forall_mem_cons.mpr ⟨tWD_i 911 (by decide +kernel) (by decide +kernel), List.forall_mem_cons.mpr ⟨tWD_i 913 (by decide +kernel) (by decide +kernel), List.forall_mem_cons.mpr ⟨tWD_i 915 (by decide +kernel) (by decide +kernel), List.forall_mem_nil _⟩⟩⟩⟩⟩⟩⟩⟩⟩⟩⟩⟩⟩⟩⟩⟩⟩⟩⟩⟩⟩⟩⟩⟩⟩⟩⟩⟩⟩⟩⟩⟩⟩⟩⟩
theorem tcf7 : tCF 7 RX7 TX7 35 tyX7 := ⟨rfl, tcf7_w, tyX7_ok, nmX7⟩
theorem fk_X6_10 : tFK RX6 10 6 0 := ⟨RX6, TX6, 10, tyX6, tcf6, by decide, rfl, Or.inl (tWD_i 327 (by decide +kernel) (by decide +kernel))⟩
theorem fk_X6_19 : tFK RX6 19 6 1 := ⟨RX6, TX6, 10, tyX6, tcf6, by decide, rfl, Or.inl (tWD_i 328 (by decide +kernel) (by decide +kernel))⟩
theorem fk_X6_28 : tFK RX6 28 6 2 := ⟨RX6, TX6, 10, tyX6, tcf6, by decide, rfl, Or.inl (tWD_i 329 (by decide +kernel) (by decide +kernel))⟩
theorem fk_X6_37 : tFK RX6 37 6 3 := ⟨RX6, TX6, 10, tyX6, tcf6, by decide, rfl, Or.inl (tWD_i 330 (by decide +kernel) (by decide +kernel))⟩
theorem fk_X6_46 : tFK RX6 46 6 4 := ⟨RX6, TX6, 10, tyX6, tcf6, by decide, rfl, Or.inl (tWD_i 331 (by decide +kernel) (by decide +kernel))⟩
theorem fk_X6_53 : tFK RX6 53 6 5 := ⟨RX6, TX6, 10, tyX6, tcf6, by decide, rfl, Or.inl (tWD_i 332 (by decide +kernel) (by decide +kernel))⟩
theorem fk_X6_57 : tFK RX6 57 6 6 := ⟨RX6, TX6, 10, tyX6, tcf6, by decide, rfl, Or.inl (tWD_i 333 (by decide +kernel) (by decide +kernel))⟩
theorem fp_X6_57 : tFP RX6 57 6 6 := ⟨RX6, TX6, 10, tyX6, tcf6, by decide, rfl, Or.inl (tWD_i 333 (by decide +kernel) (by decide +kernel)), rfl, rfl⟩
theorem fk_X6_61 : tFK RX6 61 6 7 := ⟨RX6, TX6, 10, tyX6, tcf6, by decide, rfl, Or.inl (tWD_i 334 (by decide +kernel) (by decide +kernel))⟩
theorem fp_X6_61 : tFP RX6 61 6 7 := ⟨RX6, TX6, 10, tyX6, tcf6, by decide, rfl, Or.inl (tWD_i 334 (by decide +kernel) (by decide +kernel)), rfl, rfl⟩
theorem fk_X6_64 : tFK RX6 64 6 8 := ⟨RX6, TX6, 10, tyX6, tcf6, by decide, rfl, Or.inl (tWD_i 335 (by decide +kernel) (by decide +kernel))⟩
theorem fp_X6_64 : tFP RX6 64 6 8 := ⟨RX6, TX6, 10, tyX6, tcf6, by decide, rfl, Or.inl (tWD_i 335 (by decide +kernel) (by decide +kernel)), rfl, rfl⟩
theorem fk_X6_67 : tFK RX6 67 6 9 := ⟨RX6, TX6, 10, tyX6, tcf6, by decide, rfl, Or.inl (tWD_i 336 (by decide +kernel) (by decide +kernel))⟩
theorem fp_X6_67 : tFP RX6 67 6 9 := ⟨RX6, TX6, 10, tyX6, tcf6, by decide, rfl, Or.inl (tWD_i 336 (by decide +kernel) (by decide +kernel)), rfl, rfl⟩
theorem fk_X6_78 : tFK RX6 78 1 9 := ⟨RX1, TX1, 12, tyX1, tcf1, by decide, rfl, Or.inr (tWD_i 136 (by decide +kernel) (by decide +kernel))⟩
theorem fp_X6_78 : tFP RX6 78 1 9 := ⟨RX1, TX1, 12, tyX1, tcf1, by decide, rfl, Or.inr (tWD_i 136 (by decide +kernel) (by decide +kernel)), rfl, rfl⟩
theorem fk_X6_92 : tFK RX6 92 1 0 := ⟨RX1, TX1, 12, tyX1, tcf1, by decide, rfl, Or.inr (tWD_i 123 (by decide +kernel) (by decide +kernel))⟩
theorem fk_X6_96 : tFK RX6 96 1 1 := ⟨RX1, TX1, 12, tyX1, tcf1, by decide, rfl, Or.inr (tWD_i 126 (by decide +kernel) (by decide +kernel))⟩
theorem fk_X6_99 : tFK RX6 99 1 10 := ⟨RX1, TX1, 12, tyX1, tcf1, by decide, rfl, Or.inr (tWD_i 140 (by decide +kernel) (by decide +kernel))⟩
theorem fp_X6_99 : tFP RX6 99 1 10 := ⟨RX1, TX1, 12, tyX1, tcf1, by decide, rfl, Or.inr (tWD_i 140 (by decide +kernel) (by decide +kernel)), rfl, rfl⟩
theorem fk_X6_110 : tFK RX6 110 1 11 := ⟨RX1, TX1, 12, tyX1, tcf1, by decide, rfl, Or.inr (tWD_i 142 (by decide +kernel) (by decide +kernel))⟩
theorem fp_X6_110 : tFP RX6 110 1 11 := ⟨RX1, TX1, 12, tyX1, tcf1, by decide, rfl, Or.inr (tWD_i 142 (by decide +kernel) (by decide +kernel)), rfl, rfl⟩
theorem fk_X6_124 : tFK RX6 124 5 6 := ⟨RX5, TX5, 8, tyX5, tcf5, by decide, rfl, Or.inr (tWD_i 190 (by decide +kernel) (by decide +kernel))⟩
theorem fp_X6_124 : tFP RX6 124 5 6 := ⟨RX5, TX5, 8, tyX5, tcf5, by decide, rfl, Or.inr (tWD_i 190 (by decide +kernel) (by decide +kernel)), rfl, rfl⟩
theorem fk_X6_134 : tFK RX6 134 5 1 := ⟨RX5, TX5, 8, tyX5, tcf5, by decide, rfl, Or.inr (tWD_i 178 (by decide +kernel) (by decide +kernel))⟩
theorem fk_X6_140 : tFK RX6 140 5 0 := ⟨RX5, TX5, 8, tyX5, tcf5, by decide, rfl, Or.inr (tWD_i 176 (by decide +kernel) (by decide +kernel))⟩
theorem fk_X6_190 : tFK RX6 190 3 1 := ⟨RX3, TX3, 2, tyX3, tcf3, by decide, rfl, Or.inr (tWD_i 264 (by decide +kernel) (by decide +kernel))⟩
theorem fp_X6_190 : tFP RX6 190 3 1 := ⟨RX3, TX3, 2, tyX3, tcf3, by decide, rfl, Or.inr (tWD_i 264 (by decide +kernel) (by decide +kernel)), rfl, rfl⟩
theorem fk_X6_200 : tFK RX6 200 4 7 := ⟨RX4, TX4, 9, tyX4, tcf4, by decide, rfl, Or.inr (tWD_i 278 (by decide +kernel) (by decide +kernel))⟩
theorem fp_X6_200 : tFP RX6 200 4 7 := ⟨RX4, TX4, 9, tyX4, tcf4, by decide, rfl, Or.inr (tWD_i 278 (by decide +kernel) (by decide +kernel)), rfl, rfl⟩
theorem fk_X6_206 : tFK RX6 206 4 8 := ⟨RX4, TX4, 9, tyX4, tcf4, by decide, rfl, Or.inr (tWD_i 280 (by decide +kernel) (by decide +kernel))⟩
theorem fp_X6_206 : tFP RX6 206 4 8 := ⟨RX4, TX4, 9, tyX4, tcf4, by decide, rfl, Or.inr (tWD_i 280 (by decide +kernel) (by decide +kernel)), rfl, rfl⟩
theorem fk_X6_218 : tFK RX6 218 0 3 := ⟨RX0, TX0, 5, tyX0, tcf0, by decide, rfl, Or.inr (tWD_i 312 (by decide +kernel) (by decide +kernel))⟩
theorem fk_X6_224 : tFK RX6 224 5 7 := ⟨RX5, TX5, 8, tyX5, tcf5, by decide, rfl, Or.inr (tWD_i 192 (by decide +kernel) (by decide +kernel))⟩
theorem fp_X6_224 : tFP RX6 224 5 7 := ⟨RX5, TX5, 8, tyX5, tcf5, by decide, rfl, Or.inr (tWD_i 192 (by decide +kernel) (by decide +kernel)), rfl, rfl⟩
theorem fk_X6_251 : tFK RX6 251 5 2 := ⟨RX5, TX5, 8, tyX5, tcf5, by decide, rfl, Or.inr (tWD_i 182 (by decide +kernel) (by decide +kernel))⟩
theorem fk_X6_269 : tFK RX6 269 3 0 := ⟨RX3, TX3, 2, tyX3, tcf3, by decide, rfl, Or.inr (tWD_i 260 (by decide +kernel) (by decide +kernel))⟩
theorem fk_X6_283 : tFK RX6 283 2 7 := ⟨RX2, TX2, 8, tyX2, tcf2, by decide, rfl, Or.inr (tWD_i 226 (by decide +kernel) (by decide +kernel))⟩
theorem fp_X6_283 : tFP RX6 283 2 7 := ⟨RX2, TX2, 8, tyX2, tcf2, by decide, rfl, Or.inr (tWD_i 226 (by decide +kernel) (by decide +kernel)), rfl, rfl⟩
theorem fk_X0_12 : tFK RX0 12 0 2 := ⟨RX0, TX0, 5, tyX0, tcf0, by decide, rfl, Or.inl (tWD_i 310 (by decide +kernel) (by decide +kernel))⟩
theorem fk_X0_18 : tFK RX0 18 0 3 := ⟨RX0, TX0, 5, tyX0, tcf0, by decide, rfl, Or.inl (tWD_i 311 (by decide +kernel) (by decide +kernel))⟩
theorem fk_X0_21 : tFK RX0 21 0 4 := ⟨RX0, TX0, 5, tyX0, tcf0, by decide, rfl, Or.inl (tWD_i 313 (by decide +kernel) (by decide +kernel))⟩
theorem fk_X0_25 : tFK RX0 25 0 0 := ⟨RX0, TX0, 5, tyX0, tcf0, by decide, rfl, Or.inl (tWD_i 308 (by decide +kernel) (by decide +kernel))⟩
theorem fk_X0_29 : tFK RX0 29 0 1 := ⟨RX0, TX0, 5, tyX0, tcf0, by decide, rfl, Or.inl (tWD_i 309 (by decide +kernel) (by decide +kernel))⟩
theorem fk_X0_33 : tFK RX0 33 5 2 := ⟨RX5, TX5, 8, tyX5, tcf5, by decide, rfl, Or.inr (tWD_i 180 (by decide +kernel) (by decide +kernel))⟩
theorem fk_X0_59 : tFK RX0 59 2 7 := ⟨RX2, TX2, 8, tyX2, tcf2, by decide, rfl, Or.inr (tWD_i 225 (by decide +kernel) (by decide +kernel))⟩
theorem fp_X0_59 : tFP RX0 59 2 7 := ⟨RX2, TX2, 8, tyX2, tcf2, by decide, rfl, Or.inr (tWD_i 225 (by decide +kernel) (by decide +kernel)), rfl, rfl⟩
theorem fk_X0_82 : tFK RX0 82 3 1 := ⟨RX3, TX3, 2, tyX3, tcf3, by decide, rfl, Or.inr (tWD_i 263 (by decide +kernel) (by decide +kernel))⟩
theorem fp_X0_82 : tFP RX0 82 3 1 := ⟨RX3, TX3, 2, tyX3, tcf3, by decide, rfl, Or.inr (tWD_i 263 (by decide +kernel) (by decide +kernel)), rfl, rfl⟩
theorem fk_X0_85 : tFK RX0 85 3 0 := ⟨RX3, TX3, 2, tyX3, tcf3, by decide, rfl, Or.inr (tWD_i 258 (by decide +kernel) (by decide +kernel))⟩
theorem fk_X0_102 : tFK RX0 102 5 6 := ⟨RX5, TX5, 8, tyX5, tcf5, by decide, rfl, Or.inr (tWD_i 188 (by decide +kernel) (by decide +kernel))⟩
theorem fp_X0_102 : tFP RX0 102 5 6 := ⟨RX5, TX5, 8, tyX5, tcf5, by decide, rfl, Or.inr (tWD_i 188 (by decide +kernel) (by decide +kernel)), rfl, rfl⟩
theorem fk_X0_105 : tFK RX0 105 2 2 := ⟨RX2, TX2, 8, tyX2, tcf2, by decide, rfl, Or.inr (tWD_i 219 (by decide +kernel) (by decide +kernel))⟩
theorem fk_X1_9 : tFK RX1 9 1 0 := ⟨RX1, TX1, 12, tyX1, tcf1, by decide, rfl, Or.inl (tWD_i 122 (by decide +kernel) (by decide +kernel))⟩
theorem fk_X1_15 : tFK RX1 15 1 1 := ⟨RX1, TX1, 12, tyX1, tcf1, by decide, rfl, Or.inl (tWD_i 125 (by decide +kernel) (by decide +kernel))⟩
theorem fk_X1_18 : tFK RX1 18 1 2 := ⟨RX1, TX1, 12, tyX1, tcf1, by decide, rfl, Or.inl (tWD_i 128 (by decide +kernel) (by decide +kernel))⟩
theorem fk_X1_21 : tFK RX1 21 1 3 := ⟨RX1, TX1, 12, tyX1, tcf1, by decide, rfl, Or.inl (tWD_i 129 (by decide +kernel) (by decide +kernel))⟩
theorem fk_X1_24 : tFK RX1 24 1 4 := ⟨RX1, TX1, 12, tyX1, tcf1, by decide, rfl, Or.inl (tWD_i 130 (by decide +kernel) (by decide +kernel))⟩
theorem fk_X1_27 : tFK RX1 27 1 5 := ⟨RX1, TX1, 12, tyX1, tcf1, by decide, rfl, Or.inl (tWD_i 131 (by decide +kernel) (by decide +kernel))⟩
theorem fk_X1_30 : tFK RX1 30 1 6 := ⟨RX1, TX1, 12, tyX1, tcf1, by decide, rfl, Or.inl (tWD_i 132 (by decide +kernel) (by decide +kernel))⟩
theorem fk_X1_33 : tFK RX1 33 1 7 := ⟨RX1, TX1, 12, tyX1, tcf1, by decide, rfl, Or.inl (tWD_i 133 (by decide +kernel) (by decide +kernel))⟩
theorem fk_X1_36 : tFK RX1 36 1 8 := ⟨RX1, TX1, 12, tyX1, tcf1, by decide, rfl, Or.inl (tWD_i 134 (by decide +kernel) (by decide +kernel))⟩
theorem fk_X1_39 : tFK RX1 39 1 9 := ⟨RX1, TX1, 12, tyX1, tcf1, by decide, rfl, Or.inl (tWD_i 135 (by decide +kernel) (by decide +kernel))⟩
theorem fp_X1_39 : tFP RX1 39 1 9 := ⟨RX1, TX1, 12, tyX1, tcf1, by decide, rfl, Or.inl (tWD_i 135 (by decide +kernel) (by decide +kernel)), rfl, rfl⟩
theorem fk_X1_43 : tFK RX1 43 1 10 := ⟨RX1, TX1, 12, tyX1, tcf1, by decide, rfl, Or.inl (tWD_i 139 (by decide +kernel) (by decide +kernel))⟩
theorem fp_X1_43 : tFP RX1 43 1 10 := ⟨RX1, TX1, 12, tyX1, tcf1, by decide, rfl, Or.inl (tWD_i 139 (by decide +kernel) (by decide +kernel)), rfl, rfl⟩
theorem fk_X1_46 : tFK RX1 46 1 11 := ⟨RX1, TX1, 12, tyX1, tcf1, by decide, rfl, Or.inl (tWD_i 141 (by decide +kernel) (by decide +kernel))⟩
theorem fp_X1_46 : tFP RX1 46 1 11 := ⟨RX1, TX1, 12, tyX1, tcf1, by decide, rfl, Or.inl (tWD_i 141 (by decide +kernel) (by decide +kernel)), rfl, rfl⟩
theorem fk_X2_9 : tFK RX2 9 2 2 := ⟨RX2, TX2, 8, tyX2, tcf2, by decide, rfl, Or.inl (tWD_i 218 (by decide +kernel) (by decide +kernel))⟩
theorem fk_X2_15 : tFK RX2 15 2 0 := ⟨RX2, TX2, 8, tyX2, tcf2, by decide, rfl, Or.inl (tWD_i 216 (by decide +kernel) (by decide +kernel))⟩
theorem fk_X2_19 : tFK RX2 19 2 1 := ⟨RX2, TX2, 8, tyX2, tcf2, by decide, rfl, Or.inl (tWD_i 217 (by decide +kernel) (by decide +kernel))⟩
theorem fk_X2_23 : tFK RX2 23 2 7 := ⟨RX2, TX2, 8, tyX2, tcf2, by decide, rfl, Or.inl (tWD_i 224 (by decide +kernel) (by decide +kernel))⟩
theorem fp_X2_23 : tFP RX2 23 2 7 := ⟨RX2, TX2, 8, tyX2, tcf2, by decide, rfl, Or.inl (tWD_i 224 (by decide +kernel) (by decide +kernel)), rfl, rfl⟩
theorem fk_X2_33 : tFK RX2 33 2 3 := ⟨RX2, TX2, 8, tyX2, tcf2, by decide, rfl, Or.inl (tWD_i 220 (by decide +kernel) (by decide +kernel))⟩
theorem fp_X2_33 : tFP RX2 33 2 3 := ⟨RX2, TX2, 8, tyX2, tcf2, by decide, rfl, Or.inl (tWD_i 220 (by decide +kernel) (by decide +kernel)), rfl, rfl⟩
theorem fk_X2_40 : tFK RX2 40 2 4 := ⟨RX2, TX2, 8, tyX2, tcf2, by decide, rfl, Or.inl (tWD_i 221 (by decide +kernel) (by decide +kernel))⟩
theorem fp_X2_40 : tFP RX2 40 2 4 := ⟨RX2, TX2, 8, tyX2, tcf2, by decide, rfl, Or.inl (tWD_i 221 (by decide +kernel) (by decide +kernel)), rfl, rfl⟩
theorem fk_X2_46 : tFK RX2 46 2 5 := ⟨RX2, TX2, 8, tyX2, tcf2, by decide, rfl, Or.inl (tWD_i 222 (by decide +kernel) (by decide +kernel))⟩
theorem fp_X2_46 : tFP RX2 46 2 5 := ⟨RX2, TX2, 8, tyX2, tcf2, by decide, rfl, Or.inl (tWD_i 222 (by decide +kernel) (by decide +kernel)), rfl, rfl⟩
theorem fk_X2_52 : tFK RX2 52 2 6 := ⟨RX2, TX2, 8, tyX2, tcf2, by decide, rfl, Or.inl (tWD_i 223 (by decide +kernel) (by decide +kernel))⟩
theorem fp_X2_52 : tFP RX2 52 2 6 := ⟨RX2, TX2, 8, tyX2, tcf2, by decide, rfl, Or.inl (tWD_i 223 (by decide +kernel) (by decide +kernel)), rfl, rfl⟩
theorem fs_X2_62 : tLF RX2 62 "ApronDesk" "FREIGHT_ORDER" "[I" := Or.inr (tWD_i 642 (by decide +kernel) (by decide +kernel))
theorem fs_X2_66 : tLF RX2 66 "ApronDesk" "COMMON_ORDER" "[I" := Or.inr (tWD_i 644 (by decide +kernel) (by decide +kernel))
theorem fk_X2_69 : tFK RX2 69 1 9 := ⟨RX1, TX1, 12, tyX1, tcf1, by decide, rfl, Or.inr (tWD_i 138 (by decide +kernel) (by decide +kernel))⟩
theorem fp_X2_69 : tFP RX2 69 1 9 := ⟨RX1, TX1, 12, tyX1, tcf1, by decide, rfl, Or.inr (tWD_i 138 (by decide +kernel) (by decide +kernel)), rfl, rfl⟩
theorem fk_X2_74 : tFK RX2 74 1 1 := ⟨RX1, TX1, 12, tyX1, tcf1, by decide, rfl, Or.inr (tWD_i 127 (by decide +kernel) (by decide +kernel))⟩
theorem fk_X2_77 : tFK RX2 77 1 0 := ⟨RX1, TX1, 12, tyX1, tcf1, by decide, rfl, Or.inr (tWD_i 124 (by decide +kernel) (by decide +kernel))⟩
theorem fk_X2_104 : tFK RX2 104 5 6 := ⟨RX5, TX5, 8, tyX5, tcf5, by decide, rfl, Or.inr (tWD_i 189 (by decide +kernel) (by decide +kernel))⟩
theorem fp_X2_104 : tFP RX2 104 5 6 := ⟨RX5, TX5, 8, tyX5, tcf5, by decide, rfl, Or.inr (tWD_i 189 (by decide +kernel) (by decide +kernel)), rfl, rfl⟩
theorem fk_X2_113 : tFK RX2 113 5 2 := ⟨RX5, TX5, 8, tyX5, tcf5, by decide, rfl, Or.inr (tWD_i 181 (by decide +kernel) (by decide +kernel))⟩
theorem fk_X3_9 : tFK RX3 9 3 0 := ⟨RX3, TX3, 2, tyX3, tcf3, by decide, rfl, Or.inl (tWD_i 257 (by decide +kernel) (by decide +kernel))⟩
theorem fk_X3_15 : tFK RX3 15 3 1 := ⟨RX3, TX3, 2, tyX3, tcf3, by decide, rfl, Or.inl (tWD_i 261 (by decide +kernel) (by decide +kernel))⟩
theorem fp_X3_15 : tFP RX3 15 3 1 := ⟨RX3, TX3, 2, tyX3, tcf3, by decide, rfl, Or.inl (tWD_i 261 (by decide +kernel) (by decide +kernel)), rfl, rfl⟩
theorem fk_X4_12 : tFK RX4 12 4 3 := ⟨RX4, TX4, 9, tyX4, tcf4, by decide, rfl, Or.inl (tWD_i 273 (by decide +kernel) (by decide +kernel))⟩
theorem fk_X4_18 : tFK RX4 18 4 4 := ⟨RX4, TX4, 9, tyX4, tcf4, by decide, rfl, Or.inl (tWD_i 274 (by decide +kernel) (by decide +kernel))⟩
theorem fk_X4_22 : tFK RX4 22 4 5 := ⟨RX4, TX4, 9, tyX4, tcf4, by decide, rfl, Or.inl (tWD_i 275 (by decide +kernel) (by decide +kernel))⟩
theorem fk_X4_25 : tFK RX4 25 4 0 := ⟨RX4, TX4, 9, tyX4, tcf4, by decide, rfl, Or.inl (tWD_i 270 (by decide +kernel) (by decide +kernel))⟩
theorem fk_X4_29 : tFK RX4 29 4 1 := ⟨RX4, TX4, 9, tyX4, tcf4, by decide, rfl, Or.inl (tWD_i 271 (by decide +kernel) (by decide +kernel))⟩
theorem fk_X4_33 : tFK RX4 33 4 2 := ⟨RX4, TX4, 9, tyX4, tcf4, by decide, rfl, Or.inl (tWD_i 272 (by decide +kernel) (by decide +kernel))⟩
theorem fk_X4_40 : tFK RX4 40 3 1 := ⟨RX3, TX3, 2, tyX3, tcf3, by decide, rfl, Or.inr (tWD_i 262 (by decide +kernel) (by decide +kernel))⟩
theorem fp_X4_40 : tFP RX4 40 3 1 := ⟨RX3, TX3, 2, tyX3, tcf3, by decide, rfl, Or.inr (tWD_i 262 (by decide +kernel) (by decide +kernel)), rfl, rfl⟩
theorem fk_X4_51 : tFK RX4 51 4 8 := ⟨RX4, TX4, 9, tyX4, tcf4, by decide, rfl, Or.inl (tWD_i 279 (by decide +kernel) (by decide +kernel))⟩
theorem fp_X4_51 : tFP RX4 51 4 8 := ⟨RX4, TX4, 9, tyX4, tcf4, by decide, rfl, Or.inl (tWD_i 279 (by decide +kernel) (by decide +kernel)), rfl, rfl⟩
theorem fk_X4_63 : tFK RX4 63 5 6 := ⟨RX5, TX5, 8, tyX5, tcf5, by decide, rfl, Or.inr (tWD_i 187 (by decide +kernel) (by decide +kernel))⟩
theorem fp_X4_63 : tFP RX4 63 5 6 := ⟨RX5, TX5, 8, tyX5, tcf5, by decide, rfl, Or.inr (tWD_i 187 (by decide +kernel) (by decide +kernel)), rfl, rfl⟩
theorem fk_X4_76 : tFK RX4 76 4 7 := ⟨RX4, TX4, 9, tyX4, tcf4, by decide, rfl, Or.inl (tWD_i 277 (by decide +kernel) (by decide +kernel))⟩
theorem fp_X4_76 : tFP RX4 76 4 7 := ⟨RX4, TX4, 9, tyX4, tcf4, by decide, rfl, Or.inl (tWD_i 277 (by decide +kernel) (by decide +kernel)), rfl, rfl⟩
theorem fk_X4_79 : tFK RX4 79 4 6 := ⟨RX4, TX4, 9, tyX4, tcf4, by decide, rfl, Or.inl (tWD_i 276 (by decide +kernel) (by decide +kernel))⟩
theorem fp_X4_79 : tFP RX4 79 4 6 := ⟨RX4, TX4, 9, tyX4, tcf4, by decide, rfl, Or.inl (tWD_i 276 (by decide +kernel) (by decide +kernel)), rfl, rfl⟩
theorem fk_X4_82 : tFK RX4 82 3 0 := ⟨RX3, TX3, 2, tyX3, tcf3, by decide, rfl, Or.inr (tWD_i 259 (by decide +kernel) (by decide +kernel))⟩
theorem fk_X4_88 : tFK RX4 88 1 9 := ⟨RX1, TX1, 12, tyX1, tcf1, by decide, rfl, Or.inr (tWD_i 137 (by decide +kernel) (by decide +kernel))⟩
theorem fp_X4_88 : tFP RX4 88 1 9 := ⟨RX1, TX1, 12, tyX1, tcf1, by decide, rfl, Or.inr (tWD_i 137 (by decide +kernel) (by decide +kernel)), rfl, rfl⟩
theorem fk_X5_9 : tFK RX5 9 5 0 := ⟨RX5, TX5, 8, tyX5, tcf5, by decide, rfl, Or.inl (tWD_i 175 (by decide +kernel) (by decide +kernel))⟩
theorem fk_X5_15 : tFK RX5 15 5 1 := ⟨RX5, TX5, 8, tyX5, tcf5, by decide, rfl, Or.inl (tWD_i 177 (by decide +kernel) (by decide +kernel))⟩
theorem fk_X5_18 : tFK RX5 18 5 2 := ⟨RX5, TX5, 8, tyX5, tcf5, by decide, rfl, Or.inl (tWD_i 179 (by decide +kernel) (by decide +kernel))⟩
theorem fk_X5_21 : tFK RX5 21 5 3 := ⟨RX5, TX5, 8, tyX5, tcf5, by decide, rfl, Or.inl (tWD_i 183 (by decide +kernel) (by decide +kernel))⟩
theorem fk_X5_24 : tFK RX5 24 5 4 := ⟨RX5, TX5, 8, tyX5, tcf5, by decide, rfl, Or.inl (tWD_i 184 (by decide +kernel) (by decide +kernel))⟩
theorem fk_X5_27 : tFK RX5 27 5 5 := ⟨RX5, TX5, 8, tyX5, tcf5, by decide, rfl, Or.inl (tWD_i 185 (by decide +kernel) (by decide +kernel))⟩
theorem fk_X5_30 : tFK RX5 30 5 6 := ⟨RX5, TX5, 8, tyX5, tcf5, by decide, rfl, Or.inl (tWD_i 186 (by decide +kernel) (by decide +kernel))⟩
theorem fp_X5_30 : tFP RX5 30 5 6 := ⟨RX5, TX5, 8, tyX5, tcf5, by decide, rfl, Or.inl (tWD_i 186 (by decide +kernel) (by decide +kernel)), rfl, rfl⟩
theorem fk_X5_42 : tFK RX5 42 5 7 := ⟨RX5, TX5, 8, tyX5, tcf5, by decide, rfl, Or.inl (tWD_i 191 (by decide +kernel) (by decide +kernel))⟩
theorem fp_X5_42 : tFP RX5 42 5 7 := ⟨RX5, TX5, 8, tyX5, tcf5, by decide, rfl, Or.inl (tWD_i 191 (by decide +kernel) (by decide +kernel)), rfl, rfl⟩
theorem fk_X7_9 : tFK RX7 9 7 2 := ⟨RX7, TX7, 35, tyX7, tcf7, by decide, rfl, Or.inl (tWD_i 814 (by decide +kernel) (by decide +kernel))⟩
theorem fp_X7_9 : tFP RX7 9 7 2 := ⟨RX7, TX7, 35, tyX7, tcf7, by decide, rfl, Or.inl (tWD_i 814 (by decide +kernel) (by decide +kernel)), rfl, rfl⟩
theorem fk_X7_13 : tFK RX7 13 7 7 := ⟨RX7, TX7, 35, tyX7, tcf7, by decide, rfl, Or.inl (tWD_i 819 (by decide +kernel) (by decide +kernel))⟩
theorem fp_X7_13 : tFP RX7 13 7 7 := ⟨RX7, TX7, 35, tyX7, tcf7, by decide, rfl, Or.inl (tWD_i 819 (by decide +kernel) (by decide +kernel)), rfl, rfl⟩
theorem fk_X7_16 : tFK RX7 16 7 9 := ⟨RX7, TX7, 35, tyX7, tcf7, by decide, rfl, Or.inl (tWD_i 821 (by decide +kernel) (by decide +kernel))⟩
theorem fk_X7_20 : tFK RX7 20 7 10 := ⟨RX7, TX7, 35, tyX7, tcf7, by decide, rfl, Or.inl (tWD_i 822 (by decide +kernel) (by decide +kernel))⟩
theorem fk_X7_23 : tFK RX7 23 7 11 := ⟨RX7, TX7, 35, tyX7, tcf7, by decide, rfl, Or.inl (tWD_i 823 (by decide +kernel) (by decide +kernel))⟩
theorem fk_X7_26 : tFK RX7 26 7 12 := ⟨RX7, TX7, 35, tyX7, tcf7, by decide, rfl, Or.inl (tWD_i 824 (by decide +kernel) (by decide +kernel))⟩
theorem fk_X7_29 : tFK RX7 29 7 13 := ⟨RX7, TX7, 35, tyX7, tcf7, by decide, rfl, Or.inl (tWD_i 825 (by decide +kernel) (by decide +kernel))⟩
theorem fk_X7_32 : tFK RX7 32 7 14 := ⟨RX7, TX7, 35, tyX7, tcf7, by decide, rfl, Or.inl (tWD_i 826 (by decide +kernel) (by decide +kernel))⟩
theorem fk_X7_35 : tFK RX7 35 7 15 := ⟨RX7, TX7, 35, tyX7, tcf7, by decide, rfl, Or.inl (tWD_i 827 (by decide +kernel) (by decide +kernel))⟩
theorem fk_X7_38 : tFK RX7 38 7 16 := ⟨RX7, TX7, 35, tyX7, tcf7, by decide, rfl, Or.inl (tWD_i 828 (by decide +kernel) (by decide +kernel))⟩
theorem fk_X7_41 : tFK RX7 41 7 17 := ⟨RX7, TX7, 35, tyX7, tcf7, by decide, rfl, Or.inl (tWD_i 829 (by decide +kernel) (by decide +kernel))⟩
theorem fk_X7_44 : tFK RX7 44 7 18 := ⟨RX7, TX7, 35, tyX7, tcf7, by decide, rfl, Or.inl (tWD_i 830 (by decide +kernel) (by decide +kernel))⟩
theorem fk_X7_47 : tFK RX7 47 7 19 := ⟨RX7, TX7, 35, tyX7, tcf7, by decide, rfl, Or.inl (tWD_i 831 (by decide +kernel) (by decide +kernel))⟩
theorem fk_X7_50 : tFK RX7 50 7 20 := ⟨RX7, TX7, 35, tyX7, tcf7, by decide, rfl, Or.inl (tWD_i 832 (by decide +kernel) (by decide +kernel))⟩
theorem fk_X7_53 : tFK RX7 53 7 21 := ⟨RX7, TX7, 35, tyX7, tcf7, by decide, rfl, Or.inl (tWD_i 833 (by decide +kernel) (by decide +kernel))⟩
theorem fk_X7_56 : tFK RX7 56 7 22 := ⟨RX7, TX7, 35, tyX7, tcf7, by decide, rfl, Or.inl (tWD_i 834 (by decide +kernel) (by decide +kernel))⟩
theorem fk_X7_59 : tFK RX7 59 7 23 := ⟨RX7, TX7, 35, tyX7, tcf7, by decide, rfl, Or.inl (tWD_i 835 (by decide +kernel) (by decide +kernel))⟩
theorem fk_X7_62 : tFK RX7 62 7 25 := ⟨RX7, TX7, 35, tyX7, tcf7, by decide, rfl, Or.inl (tWD_i 837 (by decide +kernel) (by decide +kernel))⟩
theorem fk_X7_65 : tFK RX7 65 7 27 := ⟨RX7, TX7, 35, tyX7, tcf7, by decide, rfl, Or.inl (tWD_i 839 (by decide +kernel) (by decide +kernel))⟩
theorem fk_X7_68 : tFK RX7 68 7 28 := ⟨RX7, TX7, 35, tyX7, tcf7, by decide, rfl, Or.inl (tWD_i 840 (by decide +kernel) (by decide +kernel))⟩
theorem fk_X7_71 : tFK RX7 71 7 31 := ⟨RX7, TX7, 35, tyX7, tcf7, by decide, rfl, Or.inl (tWD_i 843 (by decide +kernel) (by decide +kernel))⟩
theorem fk_X7_74 : tFK RX7 74 7 32 := ⟨RX7, TX7, 35, tyX7, tcf7, by decide, rfl, Or.inl (tWD_i 844 (by decide +kernel) (by decide +kernel))⟩
theorem fk_X7_77 : tFK RX7 77 7 33 := ⟨RX7, TX7, 35, tyX7, tcf7, by decide, rfl, Or.inl (tWD_i 845 (by decide +kernel) (by decide +kernel))⟩
theorem fk_X7_80 : tFK RX7 80 7 0 := ⟨RX7, TX7, 35, tyX7, tcf7, by decide, rfl, Or.inl (tWD_i 812 (by decide +kernel) (by decide +kernel))⟩
theorem fp_X7_80 : tFP RX7 80 7 0 := ⟨RX7, TX7, 35, tyX7, tcf7, by decide, rfl, Or.inl (tWD_i 812 (by decide +kernel) (by decide +kernel)), rfl, rfl⟩
theorem fk_X7_83 : tFK RX7 83 7 1 := ⟨RX7, TX7, 35, tyX7, tcf7, by decide, rfl, Or.inl (tWD_i 813 (by decide +kernel) (by decide +kernel))⟩
theorem fp_X7_83 : tFP RX7 83 7 1 := ⟨RX7, TX7, 35, tyX7, tcf7, by decide, rfl, Or.inl (tWD_i 813 (by decide +kernel) (by decide +kernel)), rfl, rfl⟩
theorem fk_X7_86 : tFK RX7 86 7 3 := ⟨RX7, TX7, 35, tyX7, tcf7, by decide, rfl, Or.inl (tWD_i 815 (by decide +kernel) (by decide +kernel))⟩
theorem fp_X7_86 : tFP RX7 86 7 3 := ⟨RX7, TX7, 35, tyX7, tcf7, by decide, rfl, Or.inl (tWD_i 815 (by decide +kernel) (by decide +kernel)), rfl, rfl⟩
theorem fk_X7_89 : tFK RX7 89 7 6 := ⟨RX7, TX7, 35, tyX7, tcf7, by decide, rfl, Or.inl (tWD_i 818 (by decide +kernel) (by decide +kernel))⟩
theorem fp_X7_89 : tFP RX7 89 7 6 := ⟨RX7, TX7, 35, tyX7, tcf7, by decide, rfl, Or.inl (tWD_i 818 (by decide +kernel) (by decide +kernel)), rfl, rfl⟩
theorem fk_X7_103 : tFK RX7 103 7 4 := ⟨RX7, TX7, 35, tyX7, tcf7, by decide, rfl, Or.inl (tWD_i 816 (by decide +kernel) (by decide +kernel))⟩
theorem fp_X7_103 : tFP RX7 103 7 4 := ⟨RX7, TX7, 35, tyX7, tcf7, by decide, rfl, Or.inl (tWD_i 816 (by decide +kernel) (by decide +kernel)), rfl, rfl⟩
theorem fk_X7_110 : tFK RX7 110 7 5 := ⟨RX7, TX7, 35, tyX7, tcf7, by decide, rfl, Or.inl (tWD_i 817 (by decide +kernel) (by decide +kernel))⟩
theorem fp_X7_110 : tFP RX7 110 7 5 := ⟨RX7, TX7, 35, tyX7, tcf7, by decide, rfl, Or.inl (tWD_i 817 (by decide +kernel) (by decide +kernel)), rfl, rfl⟩
theorem fk_X7_122 : tFK RX7 122 7 8 := ⟨RX7, TX7, 35, tyX7, tcf7, by decide, rfl, Or.inl (tWD_i 820 (by decide +kernel) (by decide +kernel))⟩
theorem fp_X7_122 : tFP RX7 122 7 8 := ⟨RX7, TX7, 35, tyX7, tcf7, by decide, rfl, Or.inl (tWD_i 820 (by decide +kernel) (by decide +kernel)), rfl, rfl⟩
theorem fk_X7_134 : tFK RX7 134 7 24 := ⟨RX7, TX7, 35, tyX7, tcf7, by decide, rfl, Or.inl (tWD_i 836 (by decide +kernel) (by decide +kernel))⟩
theorem fp_X7_134 : tFP RX7 134 7 24 := ⟨RX7, TX7, 35, tyX7, tcf7, by decide, rfl, Or.inl (tWD_i 836 (by decide +kernel) (by decide +kernel)), rfl, rfl⟩
theorem fk_X7_188 : tFK RX7 188 7 26 := ⟨RX7, TX7, 35, tyX7, tcf7, by decide, rfl, Or.inl (tWD_i 838 (by decide +kernel) (by decide +kernel))⟩
theorem fp_X7_188 : tFP RX7 188 7 26 := ⟨RX7, TX7, 35, tyX7, tcf7, by decide, rfl, Or.inl (tWD_i 838 (by decide +kernel) (by decide +kernel)), rfl, rfl⟩
theorem fk_X7_202 : tFK RX7 202 7 29 := ⟨RX7, TX7, 35, tyX7, tcf7, by decide, rfl, Or.inl (tWD_i 841 (by decide +kernel) (by decide +kernel))⟩
theorem fp_X7_202 : tFP RX7 202 7 29 := ⟨RX7, TX7, 35, tyX7, tcf7, by decide, rfl, Or.inl (tWD_i 841 (by decide +kernel) (by decide +kernel)), rfl, rfl⟩
theorem fk_X7_205 : tFK RX7 205 7 30 := ⟨RX7, TX7, 35, tyX7, tcf7, by decide, rfl, Or.inl (tWD_i 842 (by decide +kernel) (by decide +kernel))⟩
theorem fp_X7_205 : tFP RX7 205 7 30 := ⟨RX7, TX7, 35, tyX7, tcf7, by decide, rfl, Or.inl (tWD_i 842 (by decide +kernel) (by decide +kernel)), rfl, rfl⟩
theorem fk_X7_219 : tFK RX7 219 7 34 := ⟨RX7, TX7, 35, tyX7, tcf7, by decide, rfl, Or.inl (tWD_i 846 (by decide +kernel) (by decide +kernel))⟩
theorem fp_X7_219 : tFP RX7 219 7 34 := ⟨RX7, TX7, 35, tyX7, tcf7, by decide, rfl, Or.inl (tWD_i 846 (by decide +kernel) (by decide +kernel)), rfl, rfl⟩
def mX0_bend : tMS := (yX0_bend, cX0_bend, 7, (some .int), { frames := 5, cells := 0, slots := 0, locals := 131 }, 0)
theorem zv_X0_bend : tZV mX0_bend 2 := ⟨tWD_i 728 (by decide +kernel) (by decide +kernel), tWD_i 104 (by decide +kernel) (by decide +kernel), (by decide +kernel), (by decide +kernel), rfl, rfl⟩
theorem zi_X0_bend : tZI mX0_bend := ⟨tWD_i 727 (by decide +kernel) (by decide +kernel), tWD_i 61 (by decide +kernel) (by decide +kernel)⟩
def mX0_canGo : tMS := (yX0_canGo, cX0_canGo, 3, (some .boolean), { frames := 2, cells := 0, slots := 0, locals := 42 }, 0)
theorem zv_X0_canGo : tZV mX0_canGo 1 := ⟨tWD_i 714 (by decide +kernel) (by decide +kernel), tWD_i 104 (by decide +kernel) (by decide +kernel), (by decide +kernel), (by decide +kernel), rfl, rfl⟩
theorem zi_X0_canGo : tZI mX0_canGo := ⟨tWD_i 713 (by decide +kernel) (by decide +kernel), tWD_i 58 (by decide +kernel) (by decide +kernel)⟩
def mX0_makeRoom : tMS := (yX0_makeRoom, cX0_makeRoom, 8, (some .int), { frames := 4, cells := 0, slots := 0, locals := 103 }, 0)
theorem zv_X0_makeRoom : tZV mX0_makeRoom 2 := ⟨tWD_i 706 (by decide +kernel) (by decide +kernel), tWD_i 104 (by decide +kernel) (by decide +kernel), (by decide +kernel), (by decide +kernel), rfl, rfl⟩
theorem zi_X0_makeRoom : tZI mX0_makeRoom := ⟨tWD_i 705 (by decide +kernel) (by decide +kernel), tWD_i 57 (by decide +kernel) (by decide +kernel)⟩
def mX0_takeMoversOff : tMS := (yX0_takeMoversOff, cX0_takeMoversOff, 2, none, { frames := 2, cells := 0, slots := 0, locals := 44 }, 0)
theorem zv_X0_takeMoversOff : tZV mX0_takeMoversOff 0 := ⟨tWD_i 737 (by decide +kernel) (by decide +kernel), tWD_i 104 (by decide +kernel) (by decide +kernel), (by decide +kernel), (by decide +kernel), rfl, rfl⟩
theorem zi_X0_takeMoversOff : tZI mX0_takeMoversOff := ⟨tWD_i 736 (by decide +kernel) (by decide +kernel), tWD_i 63 (by decide +kernel) (by decide +kernel)⟩
def mX1_addCone : tMS := (yX1_addCone, cX1_addCone, 4, (some .int), { frames := 0, cells := 0, slots := 0, locals := 0 }, 0)
theorem zv_X1_addCone : tZV mX1_addCone 3 := ⟨tWD_i 411 (by decide +kernel) (by decide +kernel), tWD_i 99 (by decide +kernel) (by decide +kernel), (by decide +kernel), (by decide +kernel), rfl, rfl⟩
theorem zi_X1_addCone : tZI mX1_addCone := ⟨tWD_i 410 (by decide +kernel) (by decide +kernel), tWD_i 5 (by decide +kernel) (by decide +kernel)⟩
def mX1_addPair : tMS := (yX1_addPair, cX1_addPair, 5, (some .int), { frames := 0, cells := 0, slots := 0, locals := 0 }, 0)
theorem zv_X1_addPair : tZV mX1_addPair 4 := ⟨tWD_i 400 (by decide +kernel) (by decide +kernel), tWD_i 99 (by decide +kernel) (by decide +kernel), (by decide +kernel), (by decide +kernel), rfl, rfl⟩
theorem zi_X1_addPair : tZI mX1_addPair := ⟨tWD_i 399 (by decide +kernel) (by decide +kernel), tWD_i 4 (by decide +kernel) (by decide +kernel)⟩
def mX1_addStand : tMS := (yX1_addStand, cX1_addStand, 3, (some .int), { frames := 0, cells := 0, slots := 0, locals := 0 }, 0)
theorem zv_X1_addStand : tZV mX1_addStand 2 := ⟨tWD_i 380 (by decide +kernel) (by decide +kernel), tWD_i 99 (by decide +kernel) (by decide +kernel), (by decide +kernel), (by decide +kernel), rfl, rfl⟩
theorem zi_X1_addStand : tZI mX1_addStand := ⟨tWD_i 379 (by decide +kernel) (by decide +kernel), tWD_i 1 (by decide +kernel) (by decide +kernel)⟩
def mX1_areTooNear : tMS := (yX1_areTooNear, cX1_areTooNear, 8, (some .boolean), { frames := 0, cells := 0, slots := 0, locals := 0 }, 0)
theorem zv_X1_areTooNear : tZV mX1_areTooNear 4 := ⟨tWD_i 540 (by decide +kernel) (by decide +kernel), tWD_i 99 (by decide +kernel) (by decide +kernel), (by decide +kernel), (by decide +kernel), rfl, rfl⟩
theorem zi_X1_areTooNear : tZI mX1_areTooNear := ⟨tWD_i 539 (by decide +kernel) (by decide +kernel), tWD_i 31 (by decide +kernel) (by decide +kernel)⟩
def mX1_firstCone : tMS := (yX1_firstCone, cX1_firstCone, 5, (some .int), { frames := 1, cells := 0, slots := 0, locals := 23 }, 0)
theorem zv_X1_firstCone : tZV mX1_firstCone 3 := ⟨tWD_i 544 (by decide +kernel) (by decide +kernel), tWD_i 99 (by decide +kernel) (by decide +kernel), (by decide +kernel), (by decide +kernel), rfl, rfl⟩
theorem zi_X1_firstCone : tZI mX1_firstCone := ⟨tWD_i 543 (by decide +kernel) (by decide +kernel), tWD_i 32 (by decide +kernel) (by decide +kernel)⟩
def mX1_halfOf : tMS := (yX1_halfOf, cX1_halfOf, 2, (some .int), { frames := 0, cells := 0, slots := 0, locals := 0 }, 0)
theorem zv_X1_halfOf : tZV mX1_halfOf 1 := ⟨tWD_i 561 (by decide +kernel) (by decide +kernel), tWD_i 99 (by decide +kernel) (by decide +kernel), (by decide +kernel), (by decide +kernel), rfl, rfl⟩
theorem zi_X1_halfOf : tZI mX1_halfOf := ⟨tWD_i 560 (by decide +kernel) (by decide +kernel), tWD_i 36 (by decide +kernel) (by decide +kernel)⟩
def mX1_hasGate : tMS := (yX1_hasGate, cX1_hasGate, 2, (some .boolean), { frames := 0, cells := 0, slots := 0, locals := 0 }, 0)
theorem zv_X1_hasGate : tZV mX1_hasGate 1 := ⟨tWD_i 509 (by decide +kernel) (by decide +kernel), tWD_i 99 (by decide +kernel) (by decide +kernel), (by decide +kernel), (by decide +kernel), rfl, rfl⟩
theorem zi_X1_hasGate : tZI mX1_hasGate := ⟨tWD_i 508 (by decide +kernel) (by decide +kernel), tWD_i 24 (by decide +kernel) (by decide +kernel)⟩
def mX1_hasStand : tMS := (yX1_hasStand, cX1_hasStand, 2, (some .boolean), { frames := 0, cells := 0, slots := 0, locals := 0 }, 0)
theorem zv_X1_hasStand : tZV mX1_hasStand 1 := ⟨tWD_i 392 (by decide +kernel) (by decide +kernel), tWD_i 99 (by decide +kernel) (by decide +kernel), (by decide +kernel), (by decide +kernel), rfl, rfl⟩
theorem zi_X1_hasStand : tZI mX1_hasStand := ⟨tWD_i 391 (by decide +kernel) (by decide +kernel), tWD_i 3 (by decide +kernel) (by decide +kernel)⟩
def mX2_against : tMS := (yX2_against, cX2_against, 4, (some .int), { frames := 3, cells := 0, slots := 0, locals := 80 }, 0)
theorem zv_X2_against : tZV mX2_against 3 := ⟨tWD_i 501 (by decide +kernel) (by decide +kernel), tWD_i 101 (by decide +kernel) (by decide +kernel), (by decide +kernel), (by decide +kernel), rfl, rfl⟩
theorem zi_X2_against : tZI mX2_against := ⟨tWD_i 500 (by decide +kernel) (by decide +kernel), tWD_i 22 (by decide +kernel) (by decide +kernel)⟩
def mX2_bestStand : tMS := (yX2_bestStand, cX2_bestStand, 9, (some .int), { frames := 4, cells := 0, slots := 0, locals := 103 }, 0)
theorem zv_X2_bestStand : tZV mX2_bestStand 2 := ⟨tWD_i 639 (by decide +kernel) (by decide +kernel), tWD_i 101 (by decide +kernel) (by decide +kernel), (by decide +kernel), (by decide +kernel), rfl, rfl⟩
theorem zi_X2_bestStand : tZI mX2_bestStand := ⟨tWD_i 638 (by decide +kernel) (by decide +kernel), tWD_i 48 (by decide +kernel) (by decide +kernel)⟩
def mX2_callAllBack : tMS := (yX2_callAllBack, cX2_callAllBack, 2, none, { frames := 0, cells := 0, slots := 0, locals := 0 }, 0)
theorem zv_X2_callAllBack : tZV mX2_callAllBack 0 := ⟨tWD_i 724 (by decide +kernel) (by decide +kernel), tWD_i 101 (by decide +kernel) (by decide +kernel), (by decide +kernel), (by decide +kernel), rfl, rfl⟩
theorem zi_X2_callAllBack : tZI mX2_callAllBack := ⟨tWD_i 723 (by decide +kernel) (by decide +kernel), tWD_i 60 (by decide +kernel) (by decide +kernel)⟩
def mX2_firstNeighbour : tMS := (yX2_firstNeighbour, cX2_firstNeighbour, 5, (some .int), { frames := 2, cells := 0, slots := 0, locals := 52 }, 0)
theorem zv_X2_firstNeighbour : tZV mX2_firstNeighbour 3 := ⟨tWD_i 516 (by decide +kernel) (by decide +kernel), tWD_i 101 (by decide +kernel) (by decide +kernel), (by decide +kernel), (by decide +kernel), rfl, rfl⟩
theorem zi_X2_firstNeighbour : tZI mX2_firstNeighbour := ⟨tWD_i 515 (by decide +kernel) (by decide +kernel), tWD_i 25 (by decide +kernel) (by decide +kernel)⟩
def mX2_firstTaker : tMS := (yX2_firstTaker, cX2_firstTaker, 6, (some .int), { frames := 2, cells := 0, slots := 0, locals := 55 }, 0)
theorem zv_X2_firstTaker : tZV mX2_firstTaker 3 := ⟨tWD_i 549 (by decide +kernel) (by decide +kernel), tWD_i 101 (by decide +kernel) (by decide +kernel), (by decide +kernel), (by decide +kernel), rfl, rfl⟩
theorem zi_X2_firstTaker : tZI mX2_firstTaker := ⟨tWD_i 548 (by decide +kernel) (by decide +kernel), tWD_i 33 (by decide +kernel) (by decide +kernel)⟩
def mX2_isNeighbour : tMS := (yX2_isNeighbour, cX2_isNeighbour, 6, (some .boolean), { frames := 1, cells := 0, slots := 0, locals := 27 }, 0)
theorem zv_X2_isNeighbour : tZV mX2_isNeighbour 4 := ⟨tWD_i 524 (by decide +kernel) (by decide +kernel), tWD_i 101 (by decide +kernel) (by decide +kernel), (by decide +kernel), (by decide +kernel), rfl, rfl⟩
theorem zi_X2_isNeighbour : tZI mX2_isNeighbour := ⟨tWD_i 523 (by decide +kernel) (by decide +kernel), tWD_i 27 (by decide +kernel) (by decide +kernel)⟩
def mX2_isOther : tMS := (yX2_isOther, cX2_isOther, 2, (some .boolean), { frames := 0, cells := 0, slots := 0, locals := 0 }, 0)
theorem zv_X2_isOther : tZV mX2_isOther 1 := ⟨tWD_i 520 (by decide +kernel) (by decide +kernel), tWD_i 101 (by decide +kernel) (by decide +kernel), (by decide +kernel), (by decide +kernel), rfl, rfl⟩
theorem zi_X2_isOther : tZI mX2_isOther := ⟨tWD_i 519 (by decide +kernel) (by decide +kernel), tWD_i 26 (by decide +kernel) (by decide +kernel)⟩
def mX2_isThirdThere : tMS := (yX2_isThirdThere, cX2_isThirdThere, 10, (some .boolean), { frames := 1, cells := 0, slots := 0, locals := 26 }, 0)
theorem zv_X2_isThirdThere : tZV mX2_isThirdThere 4 := ⟨tWD_i 565 (by decide +kernel) (by decide +kernel), tWD_i 101 (by decide +kernel) (by decide +kernel), (by decide +kernel), (by decide +kernel), rfl, rfl⟩
theorem zi_X2_isThirdThere : tZI mX2_isThirdThere := ⟨tWD_i 564 (by decide +kernel) (by decide +kernel), tWD_i 37 (by decide +kernel) (by decide +kernel)⟩
def mX2_isUnfit : tMS := (yX2_isUnfit, cX2_isUnfit, 6, (some .boolean), { frames := 1, cells := 0, slots := 0, locals := 23 }, 0)
theorem zv_X2_isUnfit : tZV mX2_isUnfit 3 := ⟨tWD_i 505 (by decide +kernel) (by decide +kernel), tWD_i 101 (by decide +kernel) (by decide +kernel), (by decide +kernel), (by decide +kernel), rfl, rfl⟩
theorem zi_X2_isUnfit : tZI mX2_isUnfit := ⟨tWD_i 504 (by decide +kernel) (by decide +kernel), tWD_i 23 (by decide +kernel) (by decide +kernel)⟩
def mX2_mayShare : tMS := (yX2_mayShare, cX2_mayShare, 4, (some .boolean), { frames := 1, cells := 0, slots := 0, locals := 21 }, 0)
theorem zv_X2_mayShare : tZV mX2_mayShare 2 := ⟨tWD_i 557 (by decide +kernel) (by decide +kernel), tWD_i 101 (by decide +kernel) (by decide +kernel), (by decide +kernel), (by decide +kernel), rfl, rfl⟩
theorem zi_X2_mayShare : tZI mX2_mayShare := ⟨tWD_i 556 (by decide +kernel) (by decide +kernel), tWD_i 35 (by decide +kernel) (by decide +kernel)⟩
def mX2_regard : tMS := (yX2_regard, cX2_regard, 2, none, { frames := 1, cells := 0, slots := 0, locals := 21 }, 0)
theorem zv_X2_regard : tZV mX2_regard 1 := ⟨tWD_i 485 (by decide +kernel) (by decide +kernel), tWD_i 101 (by decide +kernel) (by decide +kernel), (by decide +kernel), (by decide +kernel), rfl, rfl⟩
theorem zi_X2_regard : tZI mX2_regard := ⟨tWD_i 484 (by decide +kernel) (by decide +kernel), tWD_i 18 (by decide +kernel) (by decide +kernel)⟩
def mX2_regardPlane : tMS := (yX2_regardPlane, cX2_regardPlane, 2, none, { frames := 0, cells := 0, slots := 0, locals := 0 }, 0)
theorem zv_X2_regardPlane : tZV mX2_regardPlane 1 := ⟨tWD_i 805 (by decide +kernel) (by decide +kernel), tWD_i 101 (by decide +kernel) (by decide +kernel), (by decide +kernel), (by decide +kernel), rfl, rfl⟩
theorem zi_X2_regardPlane : tZI mX2_regardPlane := ⟨tWD_i 804 (by decide +kernel) (by decide +kernel), tWD_i 69 (by decide +kernel) (by decide +kernel)⟩
def mX2_sendAway : tMS := (yX2_sendAway, cX2_sendAway, 2, none, { frames := 1, cells := 0, slots := 0, locals := 21 }, 0)
theorem zv_X2_sendAway : tZV mX2_sendAway 1 := ⟨tWD_i 719 (by decide +kernel) (by decide +kernel), tWD_i 101 (by decide +kernel) (by decide +kernel), (by decide +kernel), (by decide +kernel), rfl, rfl⟩
theorem zi_X2_sendAway : tZI mX2_sendAway := ⟨tWD_i 718 (by decide +kernel) (by decide +kernel), tWD_i 59 (by decide +kernel) (by decide +kernel)⟩
def mX3_empty : tMS := (yX3_empty, cX3_empty, 1, none, { frames := 0, cells := 0, slots := 0, locals := 0 }, 0)
theorem zv_X3_empty : tZV mX3_empty 0 := ⟨tWD_i 619 (by decide +kernel) (by decide +kernel), tWD_i 103 (by decide +kernel) (by decide +kernel), (by decide +kernel), (by decide +kernel), rfl, rfl⟩
theorem zi_X3_empty : tZI mX3_empty := ⟨tWD_i 618 (by decide +kernel) (by decide +kernel), tWD_i 44 (by decide +kernel) (by decide +kernel)⟩
def mX3_join : tMS := (yX3_join, cX3_join, 2, none, { frames := 0, cells := 0, slots := 0, locals := 0 }, 0)
theorem zv_X3_join : tZV mX3_join 1 := ⟨tWD_i 664 (by decide +kernel) (by decide +kernel), tWD_i 103 (by decide +kernel) (by decide +kernel), (by decide +kernel), (by decide +kernel), rfl, rfl⟩
theorem zi_X3_join : tZI mX3_join := ⟨tWD_i 663 (by decide +kernel) (by decide +kernel), tWD_i 51 (by decide +kernel) (by decide +kernel)⟩
def mX3_joinByIn : tMS := (yX3_joinByIn, cX3_joinByIn, 4, none, { frames := 1, cells := 0, slots := 0, locals := 21 }, 0)
theorem zv_X3_joinByIn : tZV mX3_joinByIn 2 := ⟨tWD_i 629 (by decide +kernel) (by decide +kernel), tWD_i 103 (by decide +kernel) (by decide +kernel), (by decide +kernel), (by decide +kernel), rfl, rfl⟩
theorem zi_X3_joinByIn : tZI mX3_joinByIn := ⟨tWD_i 628 (by decide +kernel) (by decide +kernel), tWD_i 46 (by decide +kernel) (by decide +kernel)⟩
def mX3_memberAt : tMS := (yX3_memberAt, cX3_memberAt, 2, (some .int), { frames := 0, cells := 0, slots := 0, locals := 0 }, 0)
theorem zv_X3_memberAt : tZV mX3_memberAt 1 := ⟨tWD_i 752 (by decide +kernel) (by decide +kernel), tWD_i 103 (by decide +kernel) (by decide +kernel), (by decide +kernel), (by decide +kernel), rfl, rfl⟩
theorem zi_X3_memberAt : tZI mX3_memberAt := ⟨tWD_i 751 (by decide +kernel) (by decide +kernel), tWD_i 64 (by decide +kernel) (by decide +kernel)⟩
def mX4_begin : tMS := (yX4_begin, cX4_begin, 2, none, { frames := 3, cells := 0, slots := 0, locals := 63 }, 0)
theorem zv_X4_begin : tZV mX4_begin 0 := ⟨tWD_i 658 (by decide +kernel) (by decide +kernel), tWD_i 102 (by decide +kernel) (by decide +kernel), (by decide +kernel), (by decide +kernel), rfl, rfl⟩
theorem zi_X4_begin : tZI mX4_begin := ⟨tWD_i 657 (by decide +kernel) (by decide +kernel), tWD_i 50 (by decide +kernel) (by decide +kernel)⟩
def mX4_goToNextWhole : tMS := (yX4_goToNextWhole, cX4_goToNextWhole, 4, (some .int), { frames := 4, cells := 0, slots := 0, locals := 103 }, 0)
theorem zv_X4_goToNextWhole : tZV mX4_goToNextWhole 0 := ⟨tWD_i 668 (by decide +kernel) (by decide +kernel), tWD_i 102 (by decide +kernel) (by decide +kernel), (by decide +kernel), (by decide +kernel), rfl, rfl⟩
theorem zi_X4_goToNextWhole : tZI mX4_goToNextWhole := ⟨tWD_i 667 (by decide +kernel) (by decide +kernel), tWD_i 52 (by decide +kernel) (by decide +kernel)⟩
def mX4_keepIfBetter : tMS := (yX4_keepIfBetter, cX4_keepIfBetter, 3, none, { frames := 1, cells := 0, slots := 0, locals := 24 }, 0)
theorem zv_X4_keepIfBetter : tZV mX4_keepIfBetter 0 := ⟨tWD_i 690 (by decide +kernel) (by decide +kernel), tWD_i 102 (by decide +kernel) (by decide +kernel), (by decide +kernel), (by decide +kernel), rfl, rfl⟩
theorem zi_X4_keepIfBetter : tZI mX4_keepIfBetter := ⟨tWD_i 689 (by decide +kernel) (by decide +kernel), tWD_i 55 (by decide +kernel) (by decide +kernel)⟩
def mX4_putBest : tMS := (yX4_putBest, cX4_putBest, 3, none, { frames := 3, cells := 0, slots := 0, locals := 68 }, 0)
theorem zv_X4_putBest : tZV mX4_putBest 0 := ⟨tWD_i 698 (by decide +kernel) (by decide +kernel), tWD_i 102 (by decide +kernel) (by decide +kernel), (by decide +kernel), (by decide +kernel), rfl, rfl⟩
theorem zi_X4_putBest : tZI mX4_putBest := ⟨tWD_i 697 (by decide +kernel) (by decide +kernel), tWD_i 56 (by decide +kernel) (by decide +kernel)⟩
def mX4_takeAllOff : tMS := (yX4_takeAllOff, cX4_takeAllOff, 2, none, { frames := 1, cells := 0, slots := 0, locals := 21 }, 0)
theorem zv_X4_takeAllOff : tZV mX4_takeAllOff 0 := ⟨tWD_i 678 (by decide +kernel) (by decide +kernel), tWD_i 102 (by decide +kernel) (by decide +kernel), (by decide +kernel), (by decide +kernel), rfl, rfl⟩
theorem zi_X4_takeAllOff : tZI mX4_takeAllOff := ⟨tWD_i 677 (by decide +kernel) (by decide +kernel), tWD_i 53 (by decide +kernel) (by decide +kernel)⟩
def mX4_takeBest : tMS := (yX4_takeBest, cX4_takeBest, 3, (some .int), { frames := 5, cells := 0, slots := 0, locals := 126 }, 0)
theorem zv_X4_takeBest : tZV mX4_takeBest 0 := ⟨tWD_i 686 (by decide +kernel) (by decide +kernel), tWD_i 102 (by decide +kernel) (by decide +kernel), (by decide +kernel), (by decide +kernel), rfl, rfl⟩
theorem zi_X4_takeBest : tZI mX4_takeBest := ⟨tWD_i 685 (by decide +kernel) (by decide +kernel), tWD_i 54 (by decide +kernel) (by decide +kernel)⟩
def mX4_takeFirst : tMS := (yX4_takeFirst, cX4_takeFirst, 2, (some .int), { frames := 5, cells := 0, slots := 0, locals := 126 }, 0)
theorem zv_X4_takeFirst : tZV mX4_takeFirst 0 := ⟨tWD_i 654 (by decide +kernel) (by decide +kernel), tWD_i 102 (by decide +kernel) (by decide +kernel), (by decide +kernel), (by decide +kernel), rfl, rfl⟩
theorem zi_X4_takeFirst : tZI mX4_takeFirst := ⟨tWD_i 653 (by decide +kernel) (by decide +kernel), tWD_i 49 (by decide +kernel) (by decide +kernel)⟩
def mX5_add : tMS := (yX5_add, cX5_add, 7, (some .int), { frames := 0, cells := 0, slots := 0, locals := 0 }, 0)
theorem zv_X5_add : tZV mX5_add 5 := ⟨tWD_i 431 (by decide +kernel) (by decide +kernel), tWD_i 100 (by decide +kernel) (by decide +kernel), (by decide +kernel), (by decide +kernel), rfl, rfl⟩
theorem zi_X5_add : tZI mX5_add := ⟨tWD_i 430 (by decide +kernel) (by decide +kernel), tWD_i 8 (by decide +kernel) (by decide +kernel)⟩
def mX5_addStay : tMS := (yX5_addStay, cX5_addStay, 5, none, { frames := 1, cells := 0, slots := 0, locals := 21 }, 0)
theorem zv_X5_addStay : tZV mX5_addStay 3 := ⟨tWD_i 583 (by decide +kernel) (by decide +kernel), tWD_i 100 (by decide +kernel) (by decide +kernel), (by decide +kernel), (by decide +kernel), rfl, rfl⟩
theorem zi_X5_addStay : tZI mX5_addStay := ⟨tWD_i 582 (by decide +kernel) (by decide +kernel), tWD_i 40 (by decide +kernel) (by decide +kernel)⟩
def mX5_endLastStay : tMS := (yX5_endLastStay, cX5_endLastStay, 3, none, { frames := 0, cells := 0, slots := 0, locals := 0 }, 0)
theorem zv_X5_endLastStay : tZV mX5_endLastStay 2 := ⟨tWD_i 610 (by decide +kernel) (by decide +kernel), tWD_i 100 (by decide +kernel) (by decide +kernel), (by decide +kernel), (by decide +kernel), rfl, rfl⟩
theorem zi_X5_endLastStay : tZI mX5_endLastStay := ⟨tWD_i 609 (by decide +kernel) (by decide +kernel), tWD_i 43 (by decide +kernel) (by decide +kernel)⟩
def mX5_endOf : tMS := (yX5_endOf, cX5_endOf, 3, (some .int), { frames := 0, cells := 0, slots := 0, locals := 0 }, 0)
theorem zv_X5_endOf : tZV mX5_endOf 2 := ⟨tWD_i 532 (by decide +kernel) (by decide +kernel), tWD_i 100 (by decide +kernel) (by decide +kernel), (by decide +kernel), (by decide +kernel), rfl, rfl⟩
theorem zi_X5_endOf : tZI mX5_endOf := ⟨tWD_i 531 (by decide +kernel) (by decide +kernel), tWD_i 29 (by decide +kernel) (by decide +kernel)⟩
def mX5_fromOf : tMS := (yX5_fromOf, cX5_fromOf, 3, (some .int), { frames := 0, cells := 0, slots := 0, locals := 0 }, 0)
theorem zv_X5_fromOf : tZV mX5_fromOf 2 := ⟨tWD_i 528 (by decide +kernel) (by decide +kernel), tWD_i 100 (by decide +kernel) (by decide +kernel), (by decide +kernel), (by decide +kernel), rfl, rfl⟩
theorem zi_X5_fromOf : tZI mX5_fromOf := ⟨tWD_i 527 (by decide +kernel) (by decide +kernel), tWD_i 28 (by decide +kernel) (by decide +kernel)⟩
def mX5_has : tMS := (yX5_has, cX5_has, 2, (some .boolean), { frames := 0, cells := 0, slots := 0, locals := 0 }, 0)
theorem zv_X5_has : tZV mX5_has 1 := ⟨tWD_i 439 (by decide +kernel) (by decide +kernel), tWD_i 100 (by decide +kernel) (by decide +kernel), (by decide +kernel), (by decide +kernel), rfl, rfl⟩
theorem zi_X5_has : tZI mX5_has := ⟨tWD_i 438 (by decide +kernel) (by decide +kernel), tWD_i 9 (by decide +kernel) (by decide +kernel)⟩
def mX5_hasBegun : tMS := (yX5_hasBegun, cX5_hasBegun, 2, (some .boolean), { frames := 1, cells := 0, slots := 0, locals := 21 }, 0)
theorem zv_X5_hasBegun : tZV mX5_hasBegun 1 := ⟨tWD_i 467 (by decide +kernel) (by decide +kernel), tWD_i 100 (by decide +kernel) (by decide +kernel), (by decide +kernel), (by decide +kernel), rfl, rfl⟩
theorem zi_X5_hasBegun : tZI mX5_hasBegun := ⟨tWD_i 466 (by decide +kernel) (by decide +kernel), tWD_i 14 (by decide +kernel) (by decide +kernel)⟩
def mX5_inOf : tMS := (yX5_inOf, cX5_inOf, 2, (some .int), { frames := 0, cells := 0, slots := 0, locals := 0 }, 0)
theorem zv_X5_inOf : tZV mX5_inOf 1 := ⟨tWD_i 472 (by decide +kernel) (by decide +kernel), tWD_i 100 (by decide +kernel) (by decide +kernel), (by decide +kernel), (by decide +kernel), rfl, rfl⟩
theorem zi_X5_inOf : tZI mX5_inOf := ⟨tWD_i 471 (by decide +kernel) (by decide +kernel), tWD_i 15 (by decide +kernel) (by decide +kernel)⟩
def mX5_isPut : tMS := (yX5_isPut, cX5_isPut, 2, (some .boolean), { frames := 0, cells := 0, slots := 0, locals := 0 }, 0)
theorem zv_X5_isPut : tZV mX5_isPut 1 := ⟨tWD_i 443 (by decide +kernel) (by decide +kernel), tWD_i 100 (by decide +kernel) (by decide +kernel), (by decide +kernel), (by decide +kernel), rfl, rfl⟩
theorem zi_X5_isPut : tZI mX5_isPut := ⟨tWD_i 442 (by decide +kernel) (by decide +kernel), tWD_i 10 (by decide +kernel) (by decide +kernel)⟩
def mX5_isStayAt : tMS := (yX5_isStayAt, cX5_isStayAt, 7, (some .boolean), { frames := 0, cells := 0, slots := 0, locals := 0 }, 0)
theorem zv_X5_isStayAt : tZV mX5_isStayAt 5 := ⟨tWD_i 553 (by decide +kernel) (by decide +kernel), tWD_i 100 (by decide +kernel) (by decide +kernel), (by decide +kernel), (by decide +kernel), rfl, rfl⟩
theorem zi_X5_isStayAt : tZI mX5_isStayAt := ⟨tWD_i 552 (by decide +kernel) (by decide +kernel), tWD_i 34 (by decide +kernel) (by decide +kernel)⟩
def mX5_isThere : tMS := (yX5_isThere, cX5_isThere, 6, (some .boolean), { frames := 1, cells := 0, slots := 0, locals := 26 }, 0)
theorem zv_X5_isThere : tZV mX5_isThere 4 := ⟨tWD_i 795 (by decide +kernel) (by decide +kernel), tWD_i 100 (by decide +kernel) (by decide +kernel), (by decide +kernel), (by decide +kernel), rfl, rfl⟩
theorem zi_X5_isThere : tZI mX5_isThere := ⟨tWD_i 794 (by decide +kernel) (by decide +kernel), tWD_i 68 (by decide +kernel) (by decide +kernel)⟩
def mX5_isToCome : tMS := (yX5_isToCome, cX5_isToCome, 2, (some .boolean), { frames := 2, cells := 0, slots := 0, locals := 42 }, 0)
theorem zv_X5_isToCome : tZV mX5_isToCome 1 := ⟨tWD_i 623 (by decide +kernel) (by decide +kernel), tWD_i 100 (by decide +kernel) (by decide +kernel), (by decide +kernel), (by decide +kernel), rfl, rfl⟩
theorem zi_X5_isToCome : tZI mX5_isToCome := ⟨tWD_i 622 (by decide +kernel) (by decide +kernel), tWD_i 45 (by decide +kernel) (by decide +kernel)⟩
def mX5_isUnknown : tMS := (yX5_isUnknown, cX5_isUnknown, 2, (some .boolean), { frames := 0, cells := 0, slots := 0, locals := 0 }, 0)
theorem zv_X5_isUnknown : tZV mX5_isUnknown 1 := ⟨tWD_i 463 (by decide +kernel) (by decide +kernel), tWD_i 100 (by decide +kernel) (by decide +kernel), (by decide +kernel), (by decide +kernel), rfl, rfl⟩
theorem zi_X5_isUnknown : tZI mX5_isUnknown := ⟨tWD_i 462 (by decide +kernel) (by decide +kernel), tWD_i 13 (by decide +kernel) (by decide +kernel)⟩
def mX5_isWaiting : tMS := (yX5_isWaiting, cX5_isWaiting, 2, (some .boolean), { frames := 2, cells := 0, slots := 0, locals := 42 }, 0)
theorem zv_X5_isWaiting : tZV mX5_isWaiting 1 := ⟨tWD_i 760 (by decide +kernel) (by decide +kernel), tWD_i 100 (by decide +kernel) (by decide +kernel), (by decide +kernel), (by decide +kernel), rfl, rfl⟩
theorem zi_X5_isWaiting : tZI mX5_isWaiting := ⟨tWD_i 759 (by decide +kernel) (by decide +kernel), tWD_i 65 (by decide +kernel) (by decide +kernel)⟩
def mX5_kindOf : tMS := (yX5_kindOf, cX5_kindOf, 2, (some .int), { frames := 0, cells := 0, slots := 0, locals := 0 }, 0)
theorem zv_X5_kindOf : tZV mX5_kindOf 1 := ⟨tWD_i 489 (by decide +kernel) (by decide +kernel), tWD_i 100 (by decide +kernel) (by decide +kernel), (by decide +kernel), (by decide +kernel), rfl, rfl⟩
theorem zi_X5_kindOf : tZI mX5_kindOf := ⟨tWD_i 488 (by decide +kernel) (by decide +kernel), tWD_i 19 (by decide +kernel) (by decide +kernel)⟩
def mX5_makeLate : tMS := (yX5_makeLate, cX5_makeLate, 3, none, { frames := 1, cells := 0, slots := 0, locals := 22 }, 0)
theorem zv_X5_makeLate : tZV mX5_makeLate 2 := ⟨tWD_i 732 (by decide +kernel) (by decide +kernel), tWD_i 100 (by decide +kernel) (by decide +kernel), (by decide +kernel), (by decide +kernel), rfl, rfl⟩
theorem zi_X5_makeLate : tZI mX5_makeLate := ⟨tWD_i 731 (by decide +kernel) (by decide +kernel), tWD_i 62 (by decide +kernel) (by decide +kernel)⟩
def mX5_moveFirstStay : tMS := (yX5_moveFirstStay, cX5_moveFirstStay, 3, none, { frames := 0, cells := 0, slots := 0, locals := 0 }, 0)
theorem zv_X5_moveFirstStay : tZV mX5_moveFirstStay 2 := ⟨tWD_i 779 (by decide +kernel) (by decide +kernel), tWD_i 100 (by decide +kernel) (by decide +kernel), (by decide +kernel), (by decide +kernel), rfl, rfl⟩
theorem zi_X5_moveFirstStay : tZI mX5_moveFirstStay := ⟨tWD_i 778 (by decide +kernel) (by decide +kernel), tWD_i 67 (by decide +kernel) (by decide +kernel)⟩
def mX5_needOf : tMS := (yX5_needOf, cX5_needOf, 2, (some .int), { frames := 0, cells := 0, slots := 0, locals := 0 }, 0)
theorem zv_X5_needOf : tZV mX5_needOf 1 := ⟨tWD_i 497 (by decide +kernel) (by decide +kernel), tWD_i 100 (by decide +kernel) (by decide +kernel), (by decide +kernel), (by decide +kernel), rfl, rfl⟩
theorem zi_X5_needOf : tZI mX5_needOf := ⟨tWD_i 496 (by decide +kernel) (by decide +kernel), tWD_i 21 (by decide +kernel) (by decide +kernel)⟩
def mX5_outOf : tMS := (yX5_outOf, cX5_outOf, 2, (some .int), { frames := 0, cells := 0, slots := 0, locals := 0 }, 0)
theorem zv_X5_outOf : tZV mX5_outOf 1 := ⟨tWD_i 477 (by decide +kernel) (by decide +kernel), tWD_i 100 (by decide +kernel) (by decide +kernel), (by decide +kernel), (by decide +kernel), rfl, rfl⟩
theorem zi_X5_outOf : tZI mX5_outOf := ⟨tWD_i 476 (by decide +kernel) (by decide +kernel), tWD_i 16 (by decide +kernel) (by decide +kernel)⟩
def mX5_place : tMS := (yX5_place, cX5_place, 4, (some .boolean), { frames := 2, cells := 0, slots := 0, locals := 45 }, 0)
theorem zv_X5_place : tZV mX5_place 3 := ⟨tWD_i 579 (by decide +kernel) (by decide +kernel), tWD_i 100 (by decide +kernel) (by decide +kernel), (by decide +kernel), (by decide +kernel), rfl, rfl⟩
theorem zi_X5_place : tZI mX5_place := ⟨tWD_i 578 (by decide +kernel) (by decide +kernel), tWD_i 39 (by decide +kernel) (by decide +kernel)⟩
def mX5_standOf : tMS := (yX5_standOf, cX5_standOf, 3, (some .int), { frames := 0, cells := 0, slots := 0, locals := 0 }, 0)
theorem zv_X5_standOf : tZV mX5_standOf 2 := ⟨tWD_i 536 (by decide +kernel) (by decide +kernel), tWD_i 100 (by decide +kernel) (by decide +kernel), (by decide +kernel), (by decide +kernel), rfl, rfl⟩
theorem zi_X5_standOf : tZI mX5_standOf := ⟨tWD_i 535 (by decide +kernel) (by decide +kernel), tWD_i 30 (by decide +kernel) (by decide +kernel)⟩
def mX5_takeOff : tMS := (yX5_takeOff, cX5_takeOff, 2, none, { frames := 0, cells := 0, slots := 0, locals := 0 }, 0)
theorem zv_X5_takeOff : tZV mX5_takeOff 1 := ⟨tWD_i 596 (by decide +kernel) (by decide +kernel), tWD_i 100 (by decide +kernel) (by decide +kernel), (by decide +kernel), (by decide +kernel), rfl, rfl⟩
theorem zi_X5_takeOff : tZI mX5_takeOff := ⟨tWD_i 595 (by decide +kernel) (by decide +kernel), tWD_i 41 (by decide +kernel) (by decide +kernel)⟩
def mX5_wingOf : tMS := (yX5_wingOf, cX5_wingOf, 2, (some .int), { frames := 0, cells := 0, slots := 0, locals := 0 }, 0)
theorem zv_X5_wingOf : tZV mX5_wingOf 1 := ⟨tWD_i 493 (by decide +kernel) (by decide +kernel), tWD_i 100 (by decide +kernel) (by decide +kernel), (by decide +kernel), (by decide +kernel), rfl, rfl⟩
theorem zi_X5_wingOf : tZI mX5_wingOf := ⟨tWD_i 492 (by decide +kernel) (by decide +kernel), tWD_i 20 (by decide +kernel) (by decide +kernel)⟩
def mX6_allow : tMS := (yX6_allow, cX6_allow, 1, (some .boolean), { frames := 0, cells := 0, slots := 0, locals := 0 }, 0)
theorem zv_X6_allow : tZV mX6_allow 0 := ⟨tWD_i 423 (by decide +kernel) (by decide +kernel), tWD_i 98 (by decide +kernel) (by decide +kernel), (by decide +kernel), (by decide +kernel), rfl, rfl⟩
theorem zi_X6_allow : tZI mX6_allow := ⟨tWD_i 422 (by decide +kernel) (by decide +kernel), tWD_i 7 (by decide +kernel) (by decide +kernel)⟩
def mX6_at : tMS := (yX6_at, cX6_at, 6, (some .int), { frames := 2, cells := 0, slots := 0, locals := 51 }, 0)
theorem zv_X6_at : tZV mX6_at 3 := ⟨tWD_i 791 (by decide +kernel) (by decide +kernel), tWD_i 98 (by decide +kernel) (by decide +kernel), (by decide +kernel), (by decide +kernel), rfl, rfl⟩
theorem zi_X6_at : tZI mX6_at := ⟨tWD_i 789 (by decide +kernel) (by decide +kernel), tWD_i 790 (by decide +kernel) (by decide +kernel)⟩
def mX6_changed : tMS := (yX6_changed, cX6_changed, 2, (some .int), { frames := 1, cells := 0, slots := 0, locals := 21 }, 0)
theorem zv_X6_changed : tZV mX6_changed 1 := ⟨tWD_i 748 (by decide +kernel) (by decide +kernel), tWD_i 98 (by decide +kernel) (by decide +kernel), (by decide +kernel), (by decide +kernel), rfl, rfl⟩
theorem zi_X6_changed : tZI mX6_changed := ⟨tWD_i 746 (by decide +kernel) (by decide +kernel), tWD_i 747 (by decide +kernel) (by decide +kernel)⟩
def mX6_cone : tMS := (yX6_cone, cX6_cone, 4, (some .int), { frames := 1, cells := 0, slots := 0, locals := 23 }, 0)
theorem zv_X6_cone : tZV mX6_cone 3 := ⟨tWD_i 404 (by decide +kernel) (by decide +kernel), tWD_i 98 (by decide +kernel) (by decide +kernel), (by decide +kernel), (by decide +kernel), rfl, rfl⟩
theorem zi_X6_cone : tZI mX6_cone := ⟨tWD_i 402 (by decide +kernel) (by decide +kernel), tWD_i 403 (by decide +kernel) (by decide +kernel)⟩
def mX6_crowd : tMS := (yX6_crowd, cX6_crowd, 6, (some .int), { frames := 4, cells := 0, slots := 0, locals := 103 }, 0)
theorem zv_X6_crowd : tZV mX6_crowd 3 := ⟨tWD_i 801 (by decide +kernel) (by decide +kernel), tWD_i 98 (by decide +kernel) (by decide +kernel), (by decide +kernel), (by decide +kernel), rfl, rfl⟩
theorem zi_X6_crowd : tZI mX6_crowd := ⟨tWD_i 799 (by decide +kernel) (by decide +kernel), tWD_i 800 (by decide +kernel) (by decide +kernel)⟩
def mX6_deny : tMS := (yX6_deny, cX6_deny, 2, (some .boolean), { frames := 0, cells := 0, slots := 0, locals := 0 }, 0)
theorem zv_X6_deny : tZV mX6_deny 1 := ⟨tWD_i 419 (by decide +kernel) (by decide +kernel), tWD_i 98 (by decide +kernel) (by decide +kernel), (by decide +kernel), (by decide +kernel), rfl, rfl⟩
theorem zi_X6_deny : tZI mX6_deny := ⟨tWD_i 418 (by decide +kernel) (by decide +kernel), tWD_i 6 (by decide +kernel) (by decide +kernel)⟩
def mX6_faultOfLooking : tMS := (yX6_faultOfLooking, cX6_faultOfLooking, 3, (some .int), { frames := 1, cells := 0, slots := 0, locals := 21 }, 0)
theorem zv_X6_faultOfLooking : tZV mX6_faultOfLooking 2 := ⟨tWD_i 459 (by decide +kernel) (by decide +kernel), tWD_i 98 (by decide +kernel) (by decide +kernel), (by decide +kernel), (by decide +kernel), rfl, rfl⟩
theorem zi_X6_faultOfLooking : tZI mX6_faultOfLooking := ⟨tWD_i 458 (by decide +kernel) (by decide +kernel), tWD_i 12 (by decide +kernel) (by decide +kernel)⟩
def mX6_faultOfPutting : tMS := (yX6_faultOfPutting, cX6_faultOfPutting, 4, (some .int), { frames := 2, cells := 0, slots := 0, locals := 43 }, 0)
theorem zv_X6_faultOfPutting : tZV mX6_faultOfPutting 2 := ⟨tWD_i 455 (by decide +kernel) (by decide +kernel), tWD_i 98 (by decide +kernel) (by decide +kernel), (by decide +kernel), (by decide +kernel), rfl, rfl⟩
theorem zi_X6_faultOfPutting : tZI mX6_faultOfPutting := ⟨tWD_i 454 (by decide +kernel) (by decide +kernel), tWD_i 11 (by decide +kernel) (by decide +kernel)⟩
def mX6_faultOfSwapping : tMS := (yX6_faultOfSwapping, cX6_faultOfSwapping, 3, (some .int), { frames := 2, cells := 0, slots := 0, locals := 42 }, 0)
theorem zv_X6_faultOfSwapping : tZV mX6_faultOfSwapping 2 := ⟨tWD_i 772 (by decide +kernel) (by decide +kernel), tWD_i 98 (by decide +kernel) (by decide +kernel), (by decide +kernel), (by decide +kernel), rfl, rfl⟩
theorem zi_X6_faultOfSwapping : tZI mX6_faultOfSwapping := ⟨tWD_i 771 (by decide +kernel) (by decide +kernel), tWD_i 66 (by decide +kernel) (by decide +kernel)⟩
def mX6_faultOfTowing : tMS := (yX6_faultOfTowing, cX6_faultOfTowing, 5, (some .int), { frames := 1, cells := 0, slots := 0, locals := 22 }, 0)
theorem zv_X6_faultOfTowing : tZV mX6_faultOfTowing 3 := ⟨tWD_i 604 (by decide +kernel) (by decide +kernel), tWD_i 98 (by decide +kernel) (by decide +kernel), (by decide +kernel), (by decide +kernel), rfl, rfl⟩
theorem zi_X6_faultOfTowing : tZI mX6_faultOfTowing := ⟨tWD_i 603 (by decide +kernel) (by decide +kernel), tWD_i 42 (by decide +kernel) (by decide +kernel)⟩
def mX6_grant : tMS := (yX6_grant, cX6_grant, 2, (some .int), { frames := 0, cells := 0, slots := 0, locals := 0 }, 0)
theorem zv_X6_grant : tZV mX6_grant 1 := ⟨tWD_i 384 (by decide +kernel) (by decide +kernel), tWD_i 98 (by decide +kernel) (by decide +kernel), (by decide +kernel), (by decide +kernel), rfl, rfl⟩
theorem zi_X6_grant : tZI mX6_grant := ⟨tWD_i 383 (by decide +kernel) (by decide +kernel), tWD_i 2 (by decide +kernel) (by decide +kernel)⟩
def mX6_ground : tMS := (yX6_ground, cX6_ground, 3, (some .int), { frames := 1, cells := 0, slots := 0, locals := 21 }, 0)
theorem zv_X6_ground : tZV mX6_ground 2 := ⟨tWD_i 388 (by decide +kernel) (by decide +kernel), tWD_i 98 (by decide +kernel) (by decide +kernel), (by decide +kernel), (by decide +kernel), rfl, rfl⟩
theorem zi_X6_ground : tZI mX6_ground := ⟨tWD_i 386 (by decide +kernel) (by decide +kernel), tWD_i 387 (by decide +kernel) (by decide +kernel)⟩
def mX6_haveCommonMinute : tMS := (yX6_haveCommonMinute, cX6_haveCommonMinute, 4, (some .boolean), { frames := 0, cells := 0, slots := 0, locals := 0 }, 0)
theorem zv_X6_haveCommonMinute : tZV mX6_haveCommonMinute 4 := ⟨tWD_i 512 (by decide +kernel) (by decide +kernel), tWD_i 98 (by decide +kernel) (by decide +kernel), (by decide +kernel), (by decide +kernel), rfl, rfl⟩
theorem zs_X6_haveCommonMinute : tWD (.static mX6_haveCommonMinute.1) := tWD_i 511 (by decide +kernel) (by decide +kernel)
def mX6_isHindered : tMS := (yX6_isHindered, cX6_isHindered, 6, (some .boolean), { frames := 4, cells := 0, slots := 0, locals := 103 }, 0)
theorem zv_X6_isHindered : tZV mX6_isHindered 4 := ⟨tWD_i 481 (by decide +kernel) (by decide +kernel), tWD_i 98 (by decide +kernel) (by decide +kernel), (by decide +kernel), (by decide +kernel), rfl, rfl⟩
theorem zi_X6_isHindered : tZI mX6_isHindered := ⟨tWD_i 480 (by decide +kernel) (by decide +kernel), tWD_i 17 (by decide +kernel) (by decide +kernel)⟩
def mX6_isSpan : tMS := (yX6_isSpan, cX6_isSpan, 2, (some .boolean), { frames := 0, cells := 0, slots := 0, locals := 0 }, 0)
theorem zv_X6_isSpan : tZV mX6_isSpan 2 := ⟨tWD_i 407 (by decide +kernel) (by decide +kernel), tWD_i 98 (by decide +kernel) (by decide +kernel), (by decide +kernel), (by decide +kernel), rfl, rfl⟩
theorem zs_X6_isSpan : tWD (.static mX6_isSpan.1) := tWD_i 406 (by decide +kernel) (by decide +kernel)
def mX6_isWithin : tMS := (yX6_isWithin, cX6_isWithin, 3, (some .boolean), { frames := 0, cells := 0, slots := 0, locals := 0 }, 0)
theorem zv_X6_isWithin : tZV mX6_isWithin 3 := ⟨tWD_i 372 (by decide +kernel) (by decide +kernel), tWD_i 98 (by decide +kernel) (by decide +kernel), (by decide +kernel), (by decide +kernel), rfl, rfl⟩
theorem zs_X6_isWithin : tWD (.static mX6_isWithin.1) := tWD_i 371 (by decide +kernel) (by decide +kernel)
def mX6_keepReason : tMS := (yX6_keepReason, cX6_keepReason, 2, none, { frames := 0, cells := 0, slots := 0, locals := 0 }, 0)
theorem zv_X6_keepReason : tZV mX6_keepReason 1 := ⟨tWD_i 575 (by decide +kernel) (by decide +kernel), tWD_i 98 (by decide +kernel) (by decide +kernel), (by decide +kernel), (by decide +kernel), rfl, rfl⟩
theorem zi_X6_keepReason : tZI mX6_keepReason := ⟨tWD_i 574 (by decide +kernel) (by decide +kernel), tWD_i 38 (by decide +kernel) (by decide +kernel)⟩
def mX6_late : tMS := (yX6_late, cX6_late, 4, (some .int), { frames := 6, cells := 0, slots := 0, locals := 157 }, 0)
theorem zv_X6_late : tZV mX6_late 2 := ⟨tWD_i 702 (by decide +kernel) (by decide +kernel), tWD_i 98 (by decide +kernel) (by decide +kernel), (by decide +kernel), (by decide +kernel), rfl, rfl⟩
theorem zi_X6_late : tZI mX6_late := ⟨tWD_i 700 (by decide +kernel) (by decide +kernel), tWD_i 701 (by decide +kernel) (by decide +kernel)⟩
def mX6_most : tMS := (yX6_most, cX6_most, 2, (some .int), { frames := 6, cells := 0, slots := 0, locals := 148 }, 0)
theorem zv_X6_most : tZV mX6_most 0 := ⟨tWD_i 682 (by decide +kernel) (by decide +kernel), tWD_i 98 (by decide +kernel) (by decide +kernel), (by decide +kernel), (by decide +kernel), rfl, rfl⟩
theorem zi_X6_most : tZI mX6_most := ⟨tWD_i 680 (by decide +kernel) (by decide +kernel), tWD_i 681 (by decide +kernel) (by decide +kernel)⟩
def mX6_near : tMS := (yX6_near, cX6_near, 5, (some .int), { frames := 1, cells := 0, slots := 0, locals := 24 }, 0)
theorem zv_X6_near : tZV mX6_near 4 := ⟨tWD_i 396 (by decide +kernel) (by decide +kernel), tWD_i 98 (by decide +kernel) (by decide +kernel), (by decide +kernel), (by decide +kernel), rfl, rfl⟩
theorem zi_X6_near : tZI mX6_near := ⟨tWD_i 394 (by decide +kernel) (by decide +kernel), tWD_i 395 (by decide +kernel) (by decide +kernel)⟩
def mX6_now : tMS := (yX6_now, cX6_now, 3, (some .int), { frames := 6, cells := 0, slots := 0, locals := 155 }, 0)
theorem zv_X6_now : tZV mX6_now 1 := ⟨tWD_i 756 (by decide +kernel) (by decide +kernel), tWD_i 98 (by decide +kernel) (by decide +kernel), (by decide +kernel), (by decide +kernel), rfl, rfl⟩
theorem zi_X6_now : tZI mX6_now := ⟨tWD_i 754 (by decide +kernel) (by decide +kernel), tWD_i 755 (by decide +kernel) (by decide +kernel)⟩
def mX6_off : tMS := (yX6_off, cX6_off, 2, (some .boolean), { frames := 2, cells := 0, slots := 0, locals := 42 }, 0)
theorem zv_X6_off : tZV mX6_off 1 := ⟨tWD_i 592 (by decide +kernel) (by decide +kernel), tWD_i 98 (by decide +kernel) (by decide +kernel), (by decide +kernel), (by decide +kernel), rfl, rfl⟩
theorem zi_X6_off : tZI mX6_off := ⟨tWD_i 590 (by decide +kernel) (by decide +kernel), tWD_i 591 (by decide +kernel) (by decide +kernel)⟩
def mX6_plan : tMS := (yX6_plan, cX6_plan, 2, (some .int), { frames := 6, cells := 0, slots := 0, locals := 155 }, 0)
theorem zv_X6_plan : tZV mX6_plan 0 := ⟨tWD_i 615 (by decide +kernel) (by decide +kernel), tWD_i 98 (by decide +kernel) (by decide +kernel), (by decide +kernel), (by decide +kernel), rfl, rfl⟩
theorem zi_X6_plan : tZI mX6_plan := ⟨tWD_i 613 (by decide +kernel) (by decide +kernel), tWD_i 614 (by decide +kernel) (by decide +kernel)⟩
def mX6_put : tMS := (yX6_put, cX6_put, 5, (some .boolean), { frames := 5, cells := 0, slots := 0, locals := 128 }, 0)
theorem zv_X6_put : tZV mX6_put 2 := ⟨tWD_i 451 (by decide +kernel) (by decide +kernel), tWD_i 98 (by decide +kernel) (by decide +kernel), (by decide +kernel), (by decide +kernel), rfl, rfl⟩
theorem zi_X6_put : tZI mX6_put := ⟨tWD_i 449 (by decide +kernel) (by decide +kernel), tWD_i 450 (by decide +kernel) (by decide +kernel)⟩
def mX6_reason : tMS := (yX6_reason, cX6_reason, 2, (some .int), { frames := 0, cells := 0, slots := 0, locals := 0 }, 0)
theorem zv_X6_reason : tZV mX6_reason 1 := ⟨tWD_i 365 (by decide +kernel) (by decide +kernel), tWD_i 98 (by decide +kernel) (by decide +kernel), (by decide +kernel), (by decide +kernel), rfl, rfl⟩
theorem zi_X6_reason : tZI mX6_reason := ⟨tWD_i 363 (by decide +kernel) (by decide +kernel), tWD_i 364 (by decide +kernel) (by decide +kernel)⟩
def mX6_refuse : tMS := (yX6_refuse, cX6_refuse, 2, (some .int), { frames := 0, cells := 0, slots := 0, locals := 0 }, 0)
theorem zv_X6_refuse : tZV mX6_refuse 1 := ⟨tWD_i 376 (by decide +kernel) (by decide +kernel), tWD_i 98 (by decide +kernel) (by decide +kernel), (by decide +kernel), (by decide +kernel), rfl, rfl⟩
theorem zi_X6_refuse : tZI mX6_refuse := ⟨tWD_i 375 (by decide +kernel) (by decide +kernel), tWD_i 0 (by decide +kernel) (by decide +kernel)⟩
def mX6_search : tMS := (yX6_search, cX6_search, 2, (some .int), { frames := 6, cells := 0, slots := 0, locals := 147 }, 0)
theorem zv_X6_search : tZV mX6_search 0 := ⟨tWD_i 650 (by decide +kernel) (by decide +kernel), tWD_i 98 (by decide +kernel) (by decide +kernel), (by decide +kernel), (by decide +kernel), rfl, rfl⟩
theorem zi_X6_search : tZI mX6_search := ⟨tWD_i 648 (by decide +kernel) (by decide +kernel), tWD_i 649 (by decide +kernel) (by decide +kernel)⟩
def mX6_serveLine : tMS := (yX6_serveLine, cX6_serveLine, 5, (some .int), { frames := 5, cells := 0, slots := 0, locals := 131 }, 0)
theorem zv_X6_serveLine : tZV mX6_serveLine 0 := ⟨tWD_i 634 (by decide +kernel) (by decide +kernel), tWD_i 98 (by decide +kernel) (by decide +kernel), (by decide +kernel), (by decide +kernel), rfl, rfl⟩
theorem zi_X6_serveLine : tZI mX6_serveLine := ⟨tWD_i 633 (by decide +kernel) (by decide +kernel), tWD_i 47 (by decide +kernel) (by decide +kernel)⟩
def mX6_stand : tMS := (yX6_stand, cX6_stand, 3, (some .int), { frames := 1, cells := 0, slots := 0, locals := 22 }, 0)
theorem zv_X6_stand : tZV mX6_stand 2 := ⟨tWD_i 369 (by decide +kernel) (by decide +kernel), tWD_i 98 (by decide +kernel) (by decide +kernel), (by decide +kernel), (by decide +kernel), rfl, rfl⟩
theorem zi_X6_stand : tZI mX6_stand := ⟨tWD_i 367 (by decide +kernel) (by decide +kernel), tWD_i 368 (by decide +kernel) (by decide +kernel)⟩
def mX6_status : tMS := (yX6_status, cX6_status, 1, (some .int), { frames := 0, cells := 0, slots := 0, locals := 0 }, 0)
theorem zv_X6_status : tZV mX6_status 0 := ⟨tWD_i 361 (by decide +kernel) (by decide +kernel), tWD_i 98 (by decide +kernel) (by decide +kernel), (by decide +kernel), (by decide +kernel), rfl, rfl⟩
theorem zi_X6_status : tZI mX6_status := ⟨tWD_i 359 (by decide +kernel) (by decide +kernel), tWD_i 360 (by decide +kernel) (by decide +kernel)⟩
def mX6_stay : tMS := (yX6_stay, cX6_stay, 4, (some .int), { frames := 1, cells := 0, slots := 0, locals := 22 }, 0)
theorem zv_X6_stay : tZV mX6_stay 3 := ⟨tWD_i 787 (by decide +kernel) (by decide +kernel), tWD_i 98 (by decide +kernel) (by decide +kernel), (by decide +kernel), (by decide +kernel), rfl, rfl⟩
theorem zi_X6_stay : tZI mX6_stay := ⟨tWD_i 785 (by decide +kernel) (by decide +kernel), tWD_i 786 (by decide +kernel) (by decide +kernel)⟩
def mX6_stays : tMS := (yX6_stays, cX6_stays, 2, (some .int), { frames := 1, cells := 0, slots := 0, locals := 21 }, 0)
theorem zv_X6_stays : tZV mX6_stays 1 := ⟨tWD_i 783 (by decide +kernel) (by decide +kernel), tWD_i 98 (by decide +kernel) (by decide +kernel), (by decide +kernel), (by decide +kernel), rfl, rfl⟩
theorem zi_X6_stays : tZI mX6_stays := ⟨tWD_i 781 (by decide +kernel) (by decide +kernel), tWD_i 782 (by decide +kernel) (by decide +kernel)⟩
def mX6_swap : tMS := (yX6_swap, cX6_swap, 7, (some .boolean), { frames := 5, cells := 0, slots := 0, locals := 128 }, 0)
theorem zv_X6_swap : tZV mX6_swap 2 := ⟨tWD_i 768 (by decide +kernel) (by decide +kernel), tWD_i 98 (by decide +kernel) (by decide +kernel), (by decide +kernel), (by decide +kernel), rfl, rfl⟩
theorem zi_X6_swap : tZI mX6_swap := ⟨tWD_i 766 (by decide +kernel) (by decide +kernel), tWD_i 767 (by decide +kernel) (by decide +kernel)⟩
def mX6_tear : tMS := (yX6_tear, cX6_tear, 3, (some .boolean), { frames := 1, cells := 0, slots := 0, locals := 22 }, 0)
theorem zv_X6_tear : tZV mX6_tear 2 := ⟨tWD_i 435 (by decide +kernel) (by decide +kernel), tWD_i 98 (by decide +kernel) (by decide +kernel), (by decide +kernel), (by decide +kernel), rfl, rfl⟩
theorem zi_X6_tear : tZI mX6_tear := ⟨tWD_i 433 (by decide +kernel) (by decide +kernel), tWD_i 434 (by decide +kernel) (by decide +kernel)⟩
def mX6_told : tMS := (yX6_told, cX6_told, 3, (some .int), { frames := 1, cells := 0, slots := 0, locals := 21 }, 0)
theorem zv_X6_told : tZV mX6_told 2 := ⟨tWD_i 447 (by decide +kernel) (by decide +kernel), tWD_i 98 (by decide +kernel) (by decide +kernel), (by decide +kernel), (by decide +kernel), rfl, rfl⟩
theorem zi_X6_told : tZI mX6_told := ⟨tWD_i 445 (by decide +kernel) (by decide +kernel), tWD_i 446 (by decide +kernel) (by decide +kernel)⟩
def mX6_tow : tMS := (yX6_tow, cX6_tow, 5, (some .boolean), { frames := 5, cells := 0, slots := 0, locals := 128 }, 0)
theorem zv_X6_tow : tZV mX6_tow 3 := ⟨tWD_i 600 (by decide +kernel) (by decide +kernel), tWD_i 98 (by decide +kernel) (by decide +kernel), (by decide +kernel), (by decide +kernel), rfl, rfl⟩
theorem zi_X6_tow : tZI mX6_tow := ⟨tWD_i 598 (by decide +kernel) (by decide +kernel), tWD_i 599 (by decide +kernel) (by decide +kernel)⟩
def mX6_towtime : tMS := (yX6_towtime, cX6_towtime, 2, (some .boolean), { frames := 1, cells := 0, slots := 0, locals := 22 }, 0)
theorem zv_X6_towtime : tZV mX6_towtime 1 := ⟨tWD_i 415 (by decide +kernel) (by decide +kernel), tWD_i 98 (by decide +kernel) (by decide +kernel), (by decide +kernel), (by decide +kernel), rfl, rfl⟩
theorem zi_X6_towtime : tZI mX6_towtime := ⟨tWD_i 413 (by decide +kernel) (by decide +kernel), tWD_i 414 (by decide +kernel) (by decide +kernel)⟩
def mX6_visit : tMS := (yX6_visit, cX6_visit, 6, (some .int), { frames := 1, cells := 0, slots := 0, locals := 26 }, 0)
theorem zv_X6_visit : tZV mX6_visit 5 := ⟨tWD_i 427 (by decide +kernel) (by decide +kernel), tWD_i 98 (by decide +kernel) (by decide +kernel), (by decide +kernel), (by decide +kernel), rfl, rfl⟩
theorem zi_X6_visit : tZI mX6_visit := ⟨tWD_i 425 (by decide +kernel) (by decide +kernel), tWD_i 426 (by decide +kernel) (by decide +kernel)⟩
def mX6_waiting : tMS := (yX6_waiting, cX6_waiting, 3, (some .int), { frames := 3, cells := 0, slots := 0, locals := 63 }, 0)
theorem zv_X6_waiting : tZV mX6_waiting 0 := ⟨tWD_i 764 (by decide +kernel) (by decide +kernel), tWD_i 98 (by decide +kernel) (by decide +kernel), (by decide +kernel), (by decide +kernel), rfl, rfl⟩
theorem zi_X6_waiting : tZI mX6_waiting := ⟨tWD_i 762 (by decide +kernel) (by decide +kernel), tWD_i 763 (by decide +kernel) (by decide +kernel)⟩
def mX6_why : tMS := (yX6_why, cX6_why, 4, (some .int), { frames := 5, cells := 0, slots := 0, locals := 128 }, 0)
theorem zv_X6_why : tZV mX6_why 2 := ⟨tWD_i 588 (by decide +kernel) (by decide +kernel), tWD_i 98 (by decide +kernel) (by decide +kernel), (by decide +kernel), (by decide +kernel), rfl, rfl⟩
theorem zi_X6_why : tZI mX6_why := ⟨tWD_i 586 (by decide +kernel) (by decide +kernel), tWD_i 587 (by decide +kernel) (by decide +kernel)⟩
def mX7_against : tMS := (yX7_against, cX7_against, 11, (some .int), { frames := 4, cells := 0, slots := 0, locals := 101 }, 1)
theorem zv_X7_against : tZV mX7_against 7 := ⟨tWD_i 1020 (by decide +kernel) (by decide +kernel), tWD_i 105 (by decide +kernel) (by decide +kernel), (by decide +kernel), (by decide +kernel), rfl, rfl⟩
theorem zi_X7_against : tZI mX7_against := ⟨tWD_i 1019 (by decide +kernel) (by decide +kernel), tWD_i 83 (by decide +kernel) (by decide +kernel)⟩
def mX7_againstOf : tMS := (yX7_againstOf, cX7_againstOf, 5, (some .int), { frames := 5, cells := 0, slots := 0, locals := 131 }, 1)
theorem zv_X7_againstOf : tZV mX7_againstOf 4 := ⟨tWD_i 1004 (by decide +kernel) (by decide +kernel), tWD_i 105 (by decide +kernel) (by decide +kernel), (by decide +kernel), (by decide +kernel), rfl, rfl⟩
theorem zi_X7_againstOf : tZI mX7_againstOf := ⟨tWD_i 1003 (by decide +kernel) (by decide +kernel), tWD_i 79 (by decide +kernel) (by decide +kernel)⟩
def mX7_at : tMS := (yX7_at, cX7_at, 8, (some .int), { frames := 1, cells := 0, slots := 0, locals := 21 }, 1)
theorem zv_X7_at : tZV mX7_at 3 := ⟨tWD_i 1133 (by decide +kernel) (by decide +kernel), tWD_i 105 (by decide +kernel) (by decide +kernel), (by decide +kernel), (by decide +kernel), rfl, rfl⟩
theorem zi_X7_at : tZI mX7_at := ⟨tWD_i 1131 (by decide +kernel) (by decide +kernel), tWD_i 1132 (by decide +kernel) (by decide +kernel)⟩
def mX7_bestOf : tMS := (yX7_bestOf, cX7_bestOf, 8, (some .int), { frames := 6, cells := 0, slots := 0, locals := 155 }, 1)
theorem zv_X7_bestOf : tZV mX7_bestOf 3 := ⟨tWD_i 1077 (by decide +kernel) (by decide +kernel), tWD_i 105 (by decide +kernel) (by decide +kernel), (by decide +kernel), (by decide +kernel), rfl, rfl⟩
theorem zi_X7_bestOf : tZI mX7_bestOf := ⟨tWD_i 1076 (by decide +kernel) (by decide +kernel), tWD_i 91 (by decide +kernel) (by decide +kernel)⟩
def mX7_changed : tMS := (yX7_changed, cX7_changed, 2, (some .int), { frames := 0, cells := 0, slots := 0, locals := 0 }, 1)
theorem zv_X7_changed : tZV mX7_changed 1 := ⟨tWD_i 1109 (by decide +kernel) (by decide +kernel), tWD_i 105 (by decide +kernel) (by decide +kernel), (by decide +kernel), (by decide +kernel), rfl, rfl⟩
theorem zi_X7_changed : tZI mX7_changed := ⟨tWD_i 1107 (by decide +kernel) (by decide +kernel), tWD_i 1108 (by decide +kernel) (by decide +kernel)⟩
def mX7_cone : tMS := (yX7_cone, cX7_cone, 4, (some .int), { frames := 1, cells := 0, slots := 0, locals := 21 }, 1)
theorem zv_X7_cone : tZV mX7_cone 3 := ⟨tWD_i 953 (by decide +kernel) (by decide +kernel), tWD_i 105 (by decide +kernel) (by decide +kernel), (by decide +kernel), (by decide +kernel), rfl, rfl⟩
theorem zi_X7_cone : tZI mX7_cone := ⟨tWD_i 951 (by decide +kernel) (by decide +kernel), tWD_i 952 (by decide +kernel) (by decide +kernel)⟩
def mX7_crowd : tMS := (yX7_crowd, cX7_crowd, 6, (some .int), { frames := 5, cells := 0, slots := 0, locals := 131 }, 1)
theorem zv_X7_crowd : tZV mX7_crowd 3 := ⟨tWD_i 1137 (by decide +kernel) (by decide +kernel), tWD_i 105 (by decide +kernel) (by decide +kernel), (by decide +kernel), (by decide +kernel), rfl, rfl⟩
theorem zi_X7_crowd : tZI mX7_crowd := ⟨tWD_i 1135 (by decide +kernel) (by decide +kernel), tWD_i 1136 (by decide +kernel) (by decide +kernel)⟩
def mX7_found : tMS := (yX7_found, cX7_found, 3, (some .int), { frames := 7, cells := 0, slots := 0, locals := 179 }, 1)
theorem zv_X7_found : tZV mX7_found 1 := ⟨tWD_i 1089 (by decide +kernel) (by decide +kernel), tWD_i 105 (by decide +kernel) (by decide +kernel), (by decide +kernel), (by decide +kernel), rfl, rfl⟩
theorem zi_X7_found : tZI mX7_found := ⟨tWD_i 1088 (by decide +kernel) (by decide +kernel), tWD_i 93 (by decide +kernel) (by decide +kernel)⟩
def mX7_gives : tMS := (yX7_gives, cX7_gives, 2, (some .int), { frames := 0, cells := 0, slots := 0, locals := 0 }, 1)
theorem zv_X7_gives : tZV mX7_gives 1 := ⟨tWD_i 937 (by decide +kernel) (by decide +kernel), tWD_i 105 (by decide +kernel) (by decide +kernel), (by decide +kernel), (by decide +kernel), rfl, rfl⟩
theorem zi_X7_gives : tZI mX7_gives := ⟨tWD_i 936 (by decide +kernel) (by decide +kernel), tWD_i 71 (by decide +kernel) (by decide +kernel)⟩
def mX7_ground : tMS := (yX7_ground, cX7_ground, 3, (some .int), { frames := 1, cells := 0, slots := 0, locals := 21 }, 1)
theorem zv_X7_ground : tZV mX7_ground 2 := ⟨tWD_i 941 (by decide +kernel) (by decide +kernel), tWD_i 105 (by decide +kernel) (by decide +kernel), (by decide +kernel), (by decide +kernel), rfl, rfl⟩
theorem zi_X7_ground : tZI mX7_ground := ⟨tWD_i 939 (by decide +kernel) (by decide +kernel), tWD_i 940 (by decide +kernel) (by decide +kernel)⟩
def mX7_hasBegun : tMS := (yX7_hasBegun, cX7_hasBegun, 2, (some .boolean), { frames := 1, cells := 0, slots := 0, locals := 21 }, 1)
theorem zv_X7_hasBegun : tZV mX7_hasBegun 1 := ⟨tWD_i 992 (by decide +kernel) (by decide +kernel), tWD_i 105 (by decide +kernel) (by decide +kernel), (by decide +kernel), (by decide +kernel), rfl, rfl⟩
theorem zi_X7_hasBegun : tZI mX7_hasBegun := ⟨tWD_i 991 (by decide +kernel) (by decide +kernel), tWD_i 76 (by decide +kernel) (by decide +kernel)⟩
def mX7_haveCommon : tMS := (yX7_haveCommon, cX7_haveCommon, 4, (some .boolean), { frames := 1, cells := 0, slots := 0, locals := 21 }, 1)
theorem zv_X7_haveCommon : tZV mX7_haveCommon 4 := ⟨tWD_i 1023 (by decide +kernel) (by decide +kernel), tWD_i 105 (by decide +kernel) (by decide +kernel), (by decide +kernel), (by decide +kernel), rfl, rfl⟩
theorem zs_X7_haveCommon : tWD (.static mX7_haveCommon.1) := tWD_i 1022 (by decide +kernel) (by decide +kernel)
def mX7_inOf : tMS := (yX7_inOf, cX7_inOf, 2, (some .int), { frames := 0, cells := 0, slots := 0, locals := 0 }, 1)
theorem zv_X7_inOf : tZV mX7_inOf 1 := ⟨tWD_i 996 (by decide +kernel) (by decide +kernel), tWD_i 105 (by decide +kernel) (by decide +kernel), (by decide +kernel), (by decide +kernel), rfl, rfl⟩
theorem zi_X7_inOf : tZI mX7_inOf := ⟨tWD_i 995 (by decide +kernel) (by decide +kernel), tWD_i 77 (by decide +kernel) (by decide +kernel)⟩
def mX7_isAgainst : tMS := (yX7_isAgainst, cX7_isAgainst, 2, (some .boolean), { frames := 0, cells := 0, slots := 0, locals := 0 }, 1)
theorem zv_X7_isAgainst : tZV mX7_isAgainst 1 := ⟨tWD_i 1041 (by decide +kernel) (by decide +kernel), tWD_i 105 (by decide +kernel) (by decide +kernel), (by decide +kernel), (by decide +kernel), rfl, rfl⟩
theorem zi_X7_isAgainst : tZI mX7_isAgainst := ⟨tWD_i 1040 (by decide +kernel) (by decide +kernel), tWD_i 87 (by decide +kernel) (by decide +kernel)⟩
def mX7_isNeighbour : tMS := (yX7_isNeighbour, cX7_isNeighbour, 13, (some .boolean), { frames := 2, cells := 0, slots := 0, locals := 44 }, 1)
theorem zv_X7_isNeighbour : tZV mX7_isNeighbour 5 := ⟨tWD_i 1029 (by decide +kernel) (by decide +kernel), tWD_i 105 (by decide +kernel) (by decide +kernel), (by decide +kernel), (by decide +kernel), rfl, rfl⟩
theorem zi_X7_isNeighbour : tZI mX7_isNeighbour := ⟨tWD_i 1028 (by decide +kernel) (by decide +kernel), tWD_i 84 (by decide +kernel) (by decide +kernel)⟩
def mX7_isPlanned : tMS := (yX7_isPlanned, cX7_isPlanned, 2, (some .boolean), { frames := 2, cells := 0, slots := 0, locals := 42 }, 1)
theorem zv_X7_isPlanned : tZV mX7_isPlanned 1 := ⟨tWD_i 1069 (by decide +kernel) (by decide +kernel), tWD_i 105 (by decide +kernel) (by decide +kernel), (by decide +kernel), (by decide +kernel), rfl, rfl⟩
theorem zi_X7_isPlanned : tZI mX7_isPlanned := ⟨tWD_i 1068 (by decide +kernel) (by decide +kernel), tWD_i 89 (by decide +kernel) (by decide +kernel)⟩
def mX7_isPut : tMS := (yX7_isPut, cX7_isPut, 2, (some .boolean), { frames := 0, cells := 0, slots := 0, locals := 0 }, 1)
theorem zv_X7_isPut : tZV mX7_isPut 1 := ⟨tWD_i 976 (by decide +kernel) (by decide +kernel), tWD_i 105 (by decide +kernel) (by decide +kernel), (by decide +kernel), (by decide +kernel), rfl, rfl⟩
theorem zi_X7_isPut : tZI mX7_isPut := ⟨tWD_i 975 (by decide +kernel) (by decide +kernel), tWD_i 74 (by decide +kernel) (by decide +kernel)⟩
def mX7_isSpan : tMS := (yX7_isSpan, cX7_isSpan, 2, (some .boolean), { frames := 0, cells := 0, slots := 0, locals := 0 }, 1)
theorem zv_X7_isSpan : tZV mX7_isSpan 2 := ⟨tWD_i 956 (by decide +kernel) (by decide +kernel), tWD_i 105 (by decide +kernel) (by decide +kernel), (by decide +kernel), (by decide +kernel), rfl, rfl⟩
theorem zs_X7_isSpan : tWD (.static mX7_isSpan.1) := tWD_i 955 (by decide +kernel) (by decide +kernel)
def mX7_isStand : tMS := (yX7_isStand, cX7_isStand, 2, (some .boolean), { frames := 0, cells := 0, slots := 0, locals := 0 }, 1)
theorem zv_X7_isStand : tZV mX7_isStand 1 := ⟨tWD_i 945 (by decide +kernel) (by decide +kernel), tWD_i 105 (by decide +kernel) (by decide +kernel), (by decide +kernel), (by decide +kernel), rfl, rfl⟩
theorem zi_X7_isStand : tZI mX7_isStand := ⟨tWD_i 944 (by decide +kernel) (by decide +kernel), tWD_i 72 (by decide +kernel) (by decide +kernel)⟩
def mX7_isThird : tMS := (yX7_isThird, cX7_isThird, 8, (some .boolean), { frames := 2, cells := 0, slots := 0, locals := 44 }, 1)
theorem zv_X7_isThird : tZV mX7_isThird 5 := ⟨tWD_i 1037 (by decide +kernel) (by decide +kernel), tWD_i 105 (by decide +kernel) (by decide +kernel), (by decide +kernel), (by decide +kernel), rfl, rfl⟩
theorem zi_X7_isThird : tZI mX7_isThird := ⟨tWD_i 1036 (by decide +kernel) (by decide +kernel), tWD_i 86 (by decide +kernel) (by decide +kernel)⟩
def mX7_isUnknown : tMS := (yX7_isUnknown, cX7_isUnknown, 2, (some .boolean), { frames := 0, cells := 0, slots := 0, locals := 0 }, 1)
theorem zv_X7_isUnknown : tZV mX7_isUnknown 1 := ⟨tWD_i 988 (by decide +kernel) (by decide +kernel), tWD_i 105 (by decide +kernel) (by decide +kernel), (by decide +kernel), (by decide +kernel), rfl, rfl⟩
theorem zi_X7_isUnknown : tZI mX7_isUnknown := ⟨tWD_i 987 (by decide +kernel) (by decide +kernel), tWD_i 75 (by decide +kernel) (by decide +kernel)⟩
def mX7_isVisit : tMS := (yX7_isVisit, cX7_isVisit, 2, (some .boolean), { frames := 0, cells := 0, slots := 0, locals := 0 }, 1)
theorem zv_X7_isVisit : tZV mX7_isVisit 1 := ⟨tWD_i 972 (by decide +kernel) (by decide +kernel), tWD_i 105 (by decide +kernel) (by decide +kernel), (by decide +kernel), (by decide +kernel), rfl, rfl⟩
theorem zi_X7_isVisit : tZI mX7_isVisit := ⟨tWD_i 971 (by decide +kernel) (by decide +kernel), tWD_i 73 (by decide +kernel) (by decide +kernel)⟩
def mX7_isWaiting : tMS := (yX7_isWaiting, cX7_isWaiting, 2, (some .boolean), { frames := 2, cells := 0, slots := 0, locals := 42 }, 1)
theorem zv_X7_isWaiting : tZV mX7_isWaiting 1 := ⟨tWD_i 1117 (by decide +kernel) (by decide +kernel), tWD_i 105 (by decide +kernel) (by decide +kernel), (by decide +kernel), (by decide +kernel), rfl, rfl⟩
theorem zi_X7_isWaiting : tZI mX7_isWaiting := ⟨tWD_i 1116 (by decide +kernel) (by decide +kernel), tWD_i 96 (by decide +kernel) (by decide +kernel)⟩
def mX7_kindOf : tMS := (yX7_kindOf, cX7_kindOf, 2, (some .int), { frames := 0, cells := 0, slots := 0, locals := 0 }, 1)
theorem zv_X7_kindOf : tZV mX7_kindOf 1 := ⟨tWD_i 1008 (by decide +kernel) (by decide +kernel), tWD_i 105 (by decide +kernel) (by decide +kernel), (by decide +kernel), (by decide +kernel), rfl, rfl⟩
theorem zi_X7_kindOf : tZI mX7_kindOf := ⟨tWD_i 1007 (by decide +kernel) (by decide +kernel), tWD_i 80 (by decide +kernel) (by decide +kernel)⟩
def mX7_late : tMS := (yX7_late, cX7_late, 10, (some .int), { frames := 7, cells := 0, slots := 0, locals := 182 }, 1)
theorem zv_X7_late : tZV mX7_late 2 := ⟨tWD_i 1105 (by decide +kernel) (by decide +kernel), tWD_i 105 (by decide +kernel) (by decide +kernel), (by decide +kernel), (by decide +kernel), rfl, rfl⟩
theorem zi_X7_late : tZI mX7_late := ⟨tWD_i 1103 (by decide +kernel) (by decide +kernel), tWD_i 1104 (by decide +kernel) (by decide +kernel)⟩
def mX7_lines : tMS := (yX7_lines, cX7_lines, 3, none, { frames := 1, cells := 0, slots := 0, locals := 21 }, 1)
theorem zv_X7_lines : tZV mX7_lines 1 := ⟨tWD_i 1073 (by decide +kernel) (by decide +kernel), tWD_i 105 (by decide +kernel) (by decide +kernel), (by decide +kernel), (by decide +kernel), rfl, rfl⟩
theorem zi_X7_lines : tZI mX7_lines := ⟨tWD_i 1072 (by decide +kernel) (by decide +kernel), tWD_i 90 (by decide +kernel) (by decide +kernel)⟩
def mX7_most : tMS := (yX7_most, cX7_most, 1, (some .int), { frames := 8, cells := 0, slots := 0, locals := 201 }, 1)
theorem zv_X7_most : tZV mX7_most 0 := ⟨tWD_i 1101 (by decide +kernel) (by decide +kernel), tWD_i 105 (by decide +kernel) (by decide +kernel), (by decide +kernel), (by decide +kernel), rfl, rfl⟩
theorem zi_X7_most : tZI mX7_most := ⟨tWD_i 1099 (by decide +kernel) (by decide +kernel), tWD_i 1100 (by decide +kernel) (by decide +kernel)⟩
def mX7_near : tMS := (yX7_near, cX7_near, 5, (some .int), { frames := 1, cells := 0, slots := 0, locals := 21 }, 1)
theorem zv_X7_near : tZV mX7_near 4 := ⟨tWD_i 949 (by decide +kernel) (by decide +kernel), tWD_i 105 (by decide +kernel) (by decide +kernel), (by decide +kernel), (by decide +kernel), rfl, rfl⟩
theorem zi_X7_near : tZI mX7_near := ⟨tWD_i 947 (by decide +kernel) (by decide +kernel), tWD_i 948 (by decide +kernel) (by decide +kernel)⟩
def mX7_needOf : tMS := (yX7_needOf, cX7_needOf, 2, (some .int), { frames := 0, cells := 0, slots := 0, locals := 0 }, 1)
theorem zv_X7_needOf : tZV mX7_needOf 1 := ⟨tWD_i 1016 (by decide +kernel) (by decide +kernel), tWD_i 105 (by decide +kernel) (by decide +kernel), (by decide +kernel), (by decide +kernel), rfl, rfl⟩
theorem zi_X7_needOf : tZI mX7_needOf := ⟨tWD_i 1015 (by decide +kernel) (by decide +kernel), tWD_i 82 (by decide +kernel) (by decide +kernel)⟩
def mX7_now : tMS := (yX7_now, cX7_now, 5, (some .int), { frames := 7, cells := 0, slots := 0, locals := 182 }, 1)
theorem zv_X7_now : tZV mX7_now 1 := ⟨tWD_i 1113 (by decide +kernel) (by decide +kernel), tWD_i 105 (by decide +kernel) (by decide +kernel), (by decide +kernel), (by decide +kernel), rfl, rfl⟩
theorem zi_X7_now : tZI mX7_now := ⟨tWD_i 1111 (by decide +kernel) (by decide +kernel), tWD_i 1112 (by decide +kernel) (by decide +kernel)⟩
def mX7_off : tMS := (yX7_off, cX7_off, 2, (some .boolean), { frames := 2, cells := 0, slots := 0, locals := 42 }, 1)
theorem zv_X7_off : tZV mX7_off 1 := ⟨tWD_i 1053 (by decide +kernel) (by decide +kernel), tWD_i 105 (by decide +kernel) (by decide +kernel), (by decide +kernel), (by decide +kernel), rfl, rfl⟩
theorem zi_X7_off : tZI mX7_off := ⟨tWD_i 1051 (by decide +kernel) (by decide +kernel), tWD_i 1052 (by decide +kernel) (by decide +kernel)⟩
def mX7_outOf : tMS := (yX7_outOf, cX7_outOf, 2, (some .int), { frames := 0, cells := 0, slots := 0, locals := 0 }, 1)
theorem zv_X7_outOf : tZV mX7_outOf 1 := ⟨tWD_i 1000 (by decide +kernel) (by decide +kernel), tWD_i 105 (by decide +kernel) (by decide +kernel), (by decide +kernel), (by decide +kernel), rfl, rfl⟩
theorem zi_X7_outOf : tZI mX7_outOf := ⟨tWD_i 999 (by decide +kernel) (by decide +kernel), tWD_i 78 (by decide +kernel) (by decide +kernel)⟩
def mX7_plan : tMS := (yX7_plan, cX7_plan, 5, (some .int), { frames := 7, cells := 0, slots := 0, locals := 182 }, 1)
theorem zv_X7_plan : tZV mX7_plan 0 := ⟨tWD_i 1065 (by decide +kernel) (by decide +kernel), tWD_i 105 (by decide +kernel) (by decide +kernel), (by decide +kernel), (by decide +kernel), rfl, rfl⟩
theorem zi_X7_plan : tZI mX7_plan := ⟨tWD_i 1063 (by decide +kernel) (by decide +kernel), tWD_i 1064 (by decide +kernel) (by decide +kernel)⟩
def mX7_put : tMS := (yX7_put, cX7_put, 3, (some .boolean), { frames := 6, cells := 0, slots := 0, locals := 155 }, 1)
theorem zv_X7_put : tZV mX7_put 2 := ⟨tWD_i 984 (by decide +kernel) (by decide +kernel), tWD_i 105 (by decide +kernel) (by decide +kernel), (by decide +kernel), (by decide +kernel), rfl, rfl⟩
theorem zi_X7_put : tZI mX7_put := ⟨tWD_i 982 (by decide +kernel) (by decide +kernel), tWD_i 983 (by decide +kernel) (by decide +kernel)⟩
def mX7_rank : tMS := (yX7_rank, cX7_rank, 3, (some .int), { frames := 0, cells := 0, slots := 0, locals := 0 }, 1)
theorem zv_X7_rank : tZV mX7_rank 2 := ⟨tWD_i 1081 (by decide +kernel) (by decide +kernel), tWD_i 105 (by decide +kernel) (by decide +kernel), (by decide +kernel), (by decide +kernel), rfl, rfl⟩
theorem zi_X7_rank : tZI mX7_rank := ⟨tWD_i 1080 (by decide +kernel) (by decide +kernel), tWD_i 92 (by decide +kernel) (by decide +kernel)⟩
def mX7_reason : tMS := (yX7_reason, cX7_reason, 2, (some .int), { frames := 0, cells := 0, slots := 0, locals := 0 }, 1)
theorem zv_X7_reason : tZV mX7_reason 1 := ⟨tWD_i 925 (by decide +kernel) (by decide +kernel), tWD_i 105 (by decide +kernel) (by decide +kernel), (by decide +kernel), (by decide +kernel), rfl, rfl⟩
theorem zi_X7_reason : tZI mX7_reason := ⟨tWD_i 923 (by decide +kernel) (by decide +kernel), tWD_i 924 (by decide +kernel) (by decide +kernel)⟩
def mX7_refuse : tMS := (yX7_refuse, cX7_refuse, 2, (some .int), { frames := 0, cells := 0, slots := 0, locals := 0 }, 1)
theorem zv_X7_refuse : tZV mX7_refuse 1 := ⟨tWD_i 933 (by decide +kernel) (by decide +kernel), tWD_i 105 (by decide +kernel) (by decide +kernel), (by decide +kernel), (by decide +kernel), rfl, rfl⟩
theorem zi_X7_refuse : tZI mX7_refuse := ⟨tWD_i 932 (by decide +kernel) (by decide +kernel), tWD_i 70 (by decide +kernel) (by decide +kernel)⟩
def mX7_search : tMS := (yX7_search, cX7_search, 5, (some .boolean), { frames := 6, cells := 0, slots := 0, locals := 155 }, 1)
theorem zv_X7_search : tZV mX7_search 1 := ⟨tWD_i 1093 (by decide +kernel) (by decide +kernel), tWD_i 105 (by decide +kernel) (by decide +kernel), (by decide +kernel), (by decide +kernel), rfl, rfl⟩
theorem zi_X7_search : tZI mX7_search := ⟨tWD_i 1092 (by decide +kernel) (by decide +kernel), tWD_i 94 (by decide +kernel) (by decide +kernel)⟩
def mX7_search_ : tMS := (yX7_search_, cX7_search_, 1, (some .int), { frames := 8, cells := 0, slots := 0, locals := 201 }, 1)
theorem zv_X7_search_ : tZV mX7_search_ 0 := ⟨tWD_i 1085 (by decide +kernel) (by decide +kernel), tWD_i 105 (by decide +kernel) (by decide +kernel), (by decide +kernel), (by decide +kernel), rfl, rfl⟩
theorem zi_X7_search_ : tZI mX7_search_ := ⟨tWD_i 1083 (by decide +kernel) (by decide +kernel), tWD_i 1084 (by decide +kernel) (by decide +kernel)⟩
def mX7_sets : tMS := (yX7_sets, cX7_sets, 5, none, { frames := 0, cells := 0, slots := 0, locals := 0 }, 1)
theorem zv_X7_sets : tZV mX7_sets 4 := ⟨tWD_i 1045 (by decide +kernel) (by decide +kernel), tWD_i 105 (by decide +kernel) (by decide +kernel), (by decide +kernel), (by decide +kernel), rfl, rfl⟩
theorem zi_X7_sets : tZI mX7_sets := ⟨tWD_i 1044 (by decide +kernel) (by decide +kernel), tWD_i 88 (by decide +kernel) (by decide +kernel)⟩
def mX7_stand : tMS := (yX7_stand, cX7_stand, 3, (some .int), { frames := 1, cells := 0, slots := 0, locals := 21 }, 1)
theorem zv_X7_stand : tZV mX7_stand 2 := ⟨tWD_i 929 (by decide +kernel) (by decide +kernel), tWD_i 105 (by decide +kernel) (by decide +kernel), (by decide +kernel), (by decide +kernel), rfl, rfl⟩
theorem zi_X7_stand : tZI mX7_stand := ⟨tWD_i 927 (by decide +kernel) (by decide +kernel), tWD_i 928 (by decide +kernel) (by decide +kernel)⟩
def mX7_status : tMS := (yX7_status, cX7_status, 1, (some .int), { frames := 0, cells := 0, slots := 0, locals := 0 }, 1)
theorem zv_X7_status : tZV mX7_status 0 := ⟨tWD_i 921 (by decide +kernel) (by decide +kernel), tWD_i 105 (by decide +kernel) (by decide +kernel), (by decide +kernel), (by decide +kernel), rfl, rfl⟩
theorem zi_X7_status : tZI mX7_status := ⟨tWD_i 919 (by decide +kernel) (by decide +kernel), tWD_i 920 (by decide +kernel) (by decide +kernel)⟩
def mX7_stay : tMS := (yX7_stay, cX7_stay, 5, (some .int), { frames := 1, cells := 0, slots := 0, locals := 21 }, 1)
theorem zv_X7_stay : tZV mX7_stay 3 := ⟨tWD_i 1129 (by decide +kernel) (by decide +kernel), tWD_i 105 (by decide +kernel) (by decide +kernel), (by decide +kernel), (by decide +kernel), rfl, rfl⟩
theorem zi_X7_stay : tZI mX7_stay := ⟨tWD_i 1127 (by decide +kernel) (by decide +kernel), tWD_i 1128 (by decide +kernel) (by decide +kernel)⟩
def mX7_stays : tMS := (yX7_stays, cX7_stays, 2, (some .int), { frames := 1, cells := 0, slots := 0, locals := 21 }, 1)
theorem zv_X7_stays : tZV mX7_stays 1 := ⟨tWD_i 1125 (by decide +kernel) (by decide +kernel), tWD_i 105 (by decide +kernel) (by decide +kernel), (by decide +kernel), (by decide +kernel), rfl, rfl⟩
theorem zi_X7_stays : tZI mX7_stays := ⟨tWD_i 1123 (by decide +kernel) (by decide +kernel), tWD_i 1124 (by decide +kernel) (by decide +kernel)⟩
def mX7_swap : tMS := (yX7_swap, cX7_swap, 8, (some .boolean), { frames := 6, cells := 0, slots := 0, locals := 155 }, 1)
theorem zv_X7_swap : tZV mX7_swap 2 := ⟨tWD_i 1061 (by decide +kernel) (by decide +kernel), tWD_i 105 (by decide +kernel) (by decide +kernel), (by decide +kernel), (by decide +kernel), rfl, rfl⟩
theorem zi_X7_swap : tZI mX7_swap := ⟨tWD_i 1059 (by decide +kernel) (by decide +kernel), tWD_i 1060 (by decide +kernel) (by decide +kernel)⟩
def mX7_takes : tMS := (yX7_takes, cX7_takes, 11, (some .boolean), { frames := 3, cells := 0, slots := 0, locals := 71 }, 1)
theorem zv_X7_takes : tZV mX7_takes 6 := ⟨tWD_i 1033 (by decide +kernel) (by decide +kernel), tWD_i 105 (by decide +kernel) (by decide +kernel), (by decide +kernel), (by decide +kernel), rfl, rfl⟩
theorem zi_X7_takes : tZI mX7_takes := ⟨tWD_i 1032 (by decide +kernel) (by decide +kernel), tWD_i 85 (by decide +kernel) (by decide +kernel)⟩
def mX7_tear : tMS := (yX7_tear, cX7_tear, 3, (some .boolean), { frames := 1, cells := 0, slots := 0, locals := 21 }, 1)
theorem zv_X7_tear : tZV mX7_tear 2 := ⟨tWD_i 968 (by decide +kernel) (by decide +kernel), tWD_i 105 (by decide +kernel) (by decide +kernel), (by decide +kernel), (by decide +kernel), rfl, rfl⟩
theorem zi_X7_tear : tZI mX7_tear := ⟨tWD_i 966 (by decide +kernel) (by decide +kernel), tWD_i 967 (by decide +kernel) (by decide +kernel)⟩
def mX7_told : tMS := (yX7_told, cX7_told, 3, (some .int), { frames := 1, cells := 0, slots := 0, locals := 21 }, 1)
theorem zv_X7_told : tZV mX7_told 2 := ⟨tWD_i 980 (by decide +kernel) (by decide +kernel), tWD_i 105 (by decide +kernel) (by decide +kernel), (by decide +kernel), (by decide +kernel), rfl, rfl⟩
theorem zi_X7_told : tZI mX7_told := ⟨tWD_i 978 (by decide +kernel) (by decide +kernel), tWD_i 979 (by decide +kernel) (by decide +kernel)⟩
def mX7_tow : tMS := (yX7_tow, cX7_tow, 6, (some .boolean), { frames := 6, cells := 0, slots := 0, locals := 155 }, 1)
theorem zv_X7_tow : tZV mX7_tow 3 := ⟨tWD_i 1057 (by decide +kernel) (by decide +kernel), tWD_i 105 (by decide +kernel) (by decide +kernel), (by decide +kernel), (by decide +kernel), rfl, rfl⟩
theorem zi_X7_tow : tZI mX7_tow := ⟨tWD_i 1055 (by decide +kernel) (by decide +kernel), tWD_i 1056 (by decide +kernel) (by decide +kernel)⟩
def mX7_towtime : tMS := (yX7_towtime, cX7_towtime, 3, (some .boolean), { frames := 0, cells := 0, slots := 0, locals := 0 }, 1)
theorem zv_X7_towtime : tZV mX7_towtime 1 := ⟨tWD_i 960 (by decide +kernel) (by decide +kernel), tWD_i 105 (by decide +kernel) (by decide +kernel), (by decide +kernel), (by decide +kernel), rfl, rfl⟩
theorem zi_X7_towtime : tZI mX7_towtime := ⟨tWD_i 958 (by decide +kernel) (by decide +kernel), tWD_i 959 (by decide +kernel) (by decide +kernel)⟩
def mX7_visit : tMS := (yX7_visit, cX7_visit, 7, (some .int), { frames := 1, cells := 0, slots := 0, locals := 21 }, 1)
theorem zv_X7_visit : tZV mX7_visit 5 := ⟨tWD_i 964 (by decide +kernel) (by decide +kernel), tWD_i 105 (by decide +kernel) (by decide +kernel), (by decide +kernel), (by decide +kernel), rfl, rfl⟩
theorem zi_X7_visit : tZI mX7_visit := ⟨tWD_i 962 (by decide +kernel) (by decide +kernel), tWD_i 963 (by decide +kernel) (by decide +kernel)⟩
def mX7_waiting : tMS := (yX7_waiting, cX7_waiting, 3, (some .int), { frames := 3, cells := 0, slots := 0, locals := 63 }, 1)
theorem zv_X7_waiting : tZV mX7_waiting 0 := ⟨tWD_i 1121 (by decide +kernel) (by decide +kernel), tWD_i 105 (by decide +kernel) (by decide +kernel), (by decide +kernel), (by decide +kernel), rfl, rfl⟩
theorem zi_X7_waiting : tZI mX7_waiting := ⟨tWD_i 1119 (by decide +kernel) (by decide +kernel), tWD_i 1120 (by decide +kernel) (by decide +kernel)⟩
def mX7_whole : tMS := (yX7_whole, cX7_whole, 3, none, { frames := 0, cells := 0, slots := 0, locals := 0 }, 1)
theorem zv_X7_whole : tZV mX7_whole 0 := ⟨tWD_i 1097 (by decide +kernel) (by decide +kernel), tWD_i 105 (by decide +kernel) (by decide +kernel), (by decide +kernel), (by decide +kernel), rfl, rfl⟩
theorem zi_X7_whole : tZI mX7_whole := ⟨tWD_i 1096 (by decide +kernel) (by decide +kernel), tWD_i 95 (by decide +kernel) (by decide +kernel)⟩
def mX7_why : tMS := (yX7_why, cX7_why, 5, (some .int), { frames := 6, cells := 0, slots := 0, locals := 155 }, 1)
theorem zv_X7_why : tZV mX7_why 2 := ⟨tWD_i 1049 (by decide +kernel) (by decide +kernel), tWD_i 105 (by decide +kernel) (by decide +kernel), (by decide +kernel), (by decide +kernel), rfl, rfl⟩
theorem zi_X7_why : tZI mX7_why := ⟨tWD_i 1047 (by decide +kernel) (by decide +kernel), tWD_i 1048 (by decide +kernel) (by decide +kernel)⟩
def mX7_wingOf : tMS := (yX7_wingOf, cX7_wingOf, 2, (some .int), { frames := 0, cells := 0, slots := 0, locals := 0 }, 1)
theorem zv_X7_wingOf : tZV mX7_wingOf 1 := ⟨tWD_i 1012 (by decide +kernel) (by decide +kernel), tWD_i 105 (by decide +kernel) (by decide +kernel), (by decide +kernel), (by decide +kernel), rfl, rfl⟩
theorem zi_X7_wingOf : tZI mX7_wingOf := ⟨tWD_i 1011 (by decide +kernel) (by decide +kernel), tWD_i 81 (by decide +kernel) (by decide +kernel)⟩
theorem lk_X6_70 : tLK RX6 70 mX6_isWithin := Or.inl (tWD_i 370 (by decide +kernel) (by decide +kernel))
theorem lk_X6_74 : tLK RX6 74 mX6_refuse := Or.inl (tWD_i 373 (by decide +kernel) (by decide +kernel))
theorem lk_X6_81 : tLK RX6 81 mX1_addStand := Or.inr (tWD_i 377 (by decide +kernel) (by decide +kernel))
theorem lk_X6_85 : tLK RX6 85 mX6_grant := Or.inl (tWD_i 381 (by decide +kernel) (by decide +kernel))
theorem lk_X6_88 : tLK RX6 88 mX1_hasStand := Or.inr (tWD_i 389 (by decide +kernel) (by decide +kernel))
theorem lk_X6_102 : tLK RX6 102 mX1_addPair := Or.inr (tWD_i 397 (by decide +kernel) (by decide +kernel))
theorem lk_X6_106 : tLK RX6 106 mX6_isSpan := Or.inl (tWD_i 405 (by decide +kernel) (by decide +kernel))
theorem lk_X6_113 : tLK RX6 113 mX1_addCone := Or.inr (tWD_i 408 (by decide +kernel) (by decide +kernel))
theorem lk_X6_117 : tLK RX6 117 mX6_deny := Or.inl (tWD_i 416 (by decide +kernel) (by decide +kernel))
theorem lk_X6_120 : tLK RX6 120 mX6_allow := Or.inl (tWD_i 420 (by decide +kernel) (by decide +kernel))
theorem lk_X6_127 : tLK RX6 127 mX5_add := Or.inr (tWD_i 428 (by decide +kernel) (by decide +kernel))
theorem lk_X6_131 : tLK RX6 131 mX5_has := Or.inr (tWD_i 436 (by decide +kernel) (by decide +kernel))
theorem lk_X6_137 : tLK RX6 137 mX5_isPut := Or.inr (tWD_i 440 (by decide +kernel) (by decide +kernel))
theorem lk_X6_143 : tLK RX6 143 mX6_faultOfPutting := Or.inl (tWD_i 452 (by decide +kernel) (by decide +kernel))
theorem lk_X6_146 : tLK RX6 146 mX5_inOf := Or.inr (tWD_i 473 (by decide +kernel) (by decide +kernel))
theorem lk_X6_149 : tLK RX6 149 mX5_outOf := Or.inr (tWD_i 474 (by decide +kernel) (by decide +kernel))
theorem lk_X6_152 : tLK RX6 152 mX6_isHindered := Or.inl (tWD_i 478 (by decide +kernel) (by decide +kernel))
theorem lk_X6_156 : tLK RX6 156 mX5_place := Or.inr (tWD_i 576 (by decide +kernel) (by decide +kernel))
theorem lk_X6_159 : tLK RX6 159 mX6_faultOfLooking := Or.inl (tWD_i 456 (by decide +kernel) (by decide +kernel))
theorem lk_X6_162 : tLK RX6 162 mX5_hasBegun := Or.inr (tWD_i 464 (by decide +kernel) (by decide +kernel))
theorem lk_X6_165 : tLK RX6 165 mX5_takeOff := Or.inr (tWD_i 593 (by decide +kernel) (by decide +kernel))
theorem lk_X6_169 : tLK RX6 169 mX6_faultOfTowing := Or.inl (tWD_i 601 (by decide +kernel) (by decide +kernel))
theorem lk_X6_172 : tLK RX6 172 mX5_endLastStay := Or.inr (tWD_i 607 (by decide +kernel) (by decide +kernel))
theorem lk_X6_176 : tLK RX6 176 mX5_addStay := Or.inr (tWD_i 611 (by decide +kernel) (by decide +kernel))
theorem lk_X6_180 : tLK RX6 180 mX3_empty := Or.inr (tWD_i 616 (by decide +kernel) (by decide +kernel))
theorem lk_X6_183 : tLK RX6 183 mX5_isToCome := Or.inr (tWD_i 620 (by decide +kernel) (by decide +kernel))
theorem lk_X6_186 : tLK RX6 186 mX3_joinByIn := Or.inr (tWD_i 626 (by decide +kernel) (by decide +kernel))
theorem lk_X6_193 : tLK RX6 193 mX6_serveLine := Or.inl (tWD_i 631 (by decide +kernel) (by decide +kernel))
theorem lk_X6_197 : tLK RX6 197 mX4_takeFirst := Or.inr (tWD_i 651 (by decide +kernel) (by decide +kernel))
theorem lk_X6_203 : tLK RX6 203 mX4_takeBest := Or.inr (tWD_i 683 (by decide +kernel) (by decide +kernel))
theorem lk_X6_209 : tLK RX6 209 mX0_makeRoom := Or.inr (tWD_i 703 (by decide +kernel) (by decide +kernel))
theorem lk_X6_212 : tLK RX6 212 mX6_keepReason := Or.inl (tWD_i 572 (by decide +kernel) (by decide +kernel))
theorem lk_X6_215 : tLK RX6 215 mX0_bend := Or.inr (tWD_i 725 (by decide +kernel) (by decide +kernel))
theorem lk_X6_221 : tLK RX6 221 mX3_memberAt := Or.inr (tWD_i 749 (by decide +kernel) (by decide +kernel))
theorem lk_X6_227 : tLK RX6 227 mX5_isWaiting := Or.inr (tWD_i 757 (by decide +kernel) (by decide +kernel))
theorem lk_X6_230 : tLK RX6 230 mX6_faultOfSwapping := Or.inl (tWD_i 769 (by decide +kernel) (by decide +kernel))
theorem lk_X6_233 : tLK RX6 233 mX5_standOf := Or.inr (tWD_i 605 (by decide +kernel) (by decide +kernel))
theorem lk_X6_236 : tLK RX6 236 mX2_sendAway := Or.inr (tWD_i 773 (by decide +kernel) (by decide +kernel))
theorem lk_X6_239 : tLK RX6 239 mX5_fromOf := Or.inr (tWD_i 606 (by decide +kernel) (by decide +kernel))
theorem lk_X6_242 : tLK RX6 242 mX5_endOf := Or.inr (tWD_i 774 (by decide +kernel) (by decide +kernel))
theorem lk_X6_245 : tLK RX6 245 mX2_callAllBack := Or.inr (tWD_i 775 (by decide +kernel) (by decide +kernel))
theorem lk_X6_248 : tLK RX6 248 mX5_moveFirstStay := Or.inr (tWD_i 776 (by decide +kernel) (by decide +kernel))
theorem lk_X6_254 : tLK RX6 254 mX5_isThere := Or.inr (tWD_i 792 (by decide +kernel) (by decide +kernel))
theorem lk_X6_257 : tLK RX6 257 mX1_firstCone := Or.inr (tWD_i 797 (by decide +kernel) (by decide +kernel))
theorem lk_X6_260 : tLK RX6 260 mX2_regardPlane := Or.inr (tWD_i 802 (by decide +kernel) (by decide +kernel))
theorem lk_X6_263 : tLK RX6 263 mX2_against := Or.inr (tWD_i 498 (by decide +kernel) (by decide +kernel))
theorem lk_X6_266 : tLK RX6 266 mX5_isUnknown := Or.inr (tWD_i 460 (by decide +kernel) (by decide +kernel))
theorem lk_X6_277 : tLK RX6 277 mX2_bestStand := Or.inr (tWD_i 636 (by decide +kernel) (by decide +kernel))
theorem lk_X6_280 : tLK RX6 280 mX2_regard := Or.inr (tWD_i 482 (by decide +kernel) (by decide +kernel))
theorem lk_X0_38 : tLK RX0 38 mX5_standOf := Or.inr (tWD_i 707 (by decide +kernel) (by decide +kernel))
theorem lk_X0_42 : tLK RX0 42 mX5_fromOf := Or.inr (tWD_i 708 (by decide +kernel) (by decide +kernel))
theorem lk_X0_45 : tLK RX0 45 mX2_regard := Or.inr (tWD_i 709 (by decide +kernel) (by decide +kernel))
theorem lk_X0_51 : tLK RX0 51 mX2_against := Or.inr (tWD_i 710 (by decide +kernel) (by decide +kernel))
theorem lk_X0_55 : tLK RX0 55 mX0_canGo := Or.inl (tWD_i 711 (by decide +kernel) (by decide +kernel))
theorem lk_X0_63 : tLK RX0 63 mX2_sendAway := Or.inr (tWD_i 716 (by decide +kernel) (by decide +kernel))
theorem lk_X0_66 : tLK RX0 66 mX2_callAllBack := Or.inr (tWD_i 721 (by decide +kernel) (by decide +kernel))
theorem lk_X0_69 : tLK RX0 69 mX5_hasBegun := Or.inr (tWD_i 715 (by decide +kernel) (by decide +kernel))
theorem lk_X0_72 : tLK RX0 72 mX5_makeLate := Or.inr (tWD_i 729 (by decide +kernel) (by decide +kernel))
theorem lk_X0_76 : tLK RX0 76 mX0_takeMoversOff := Or.inl (tWD_i 734 (by decide +kernel) (by decide +kernel))
theorem lk_X0_79 : tLK RX0 79 mX3_empty := Or.inr (tWD_i 738 (by decide +kernel) (by decide +kernel))
theorem lk_X0_88 : tLK RX0 88 mX5_inOf := Or.inr (tWD_i 741 (by decide +kernel) (by decide +kernel))
theorem lk_X0_92 : tLK RX0 92 mX2_bestStand := Or.inr (tWD_i 742 (by decide +kernel) (by decide +kernel))
theorem lk_X0_95 : tLK RX0 95 mX5_place := Or.inr (tWD_i 743 (by decide +kernel) (by decide +kernel))
theorem lk_X0_99 : tLK RX0 99 mX3_join := Or.inr (tWD_i 744 (by decide +kernel) (by decide +kernel))
theorem lk_X0_109 : tLK RX0 109 mX3_joinByIn := Or.inr (tWD_i 739 (by decide +kernel) (by decide +kernel))
theorem lk_X0_113 : tLK RX0 113 mX5_takeOff := Or.inr (tWD_i 740 (by decide +kernel) (by decide +kernel))
theorem lk_X1_49 : tLK RX1 49 mX6_haveCommonMinute := Or.inr (tWD_i 545 (by decide +kernel) (by decide +kernel))
theorem lk_X2_27 : tLK RX2 27 mX5_has := Or.inr (tWD_i 720 (by decide +kernel) (by decide +kernel))
theorem lk_X2_36 : tLK RX2 36 mX5_kindOf := Or.inr (tWD_i 486 (by decide +kernel) (by decide +kernel))
theorem lk_X2_43 : tLK RX2 43 mX5_wingOf := Or.inr (tWD_i 490 (by decide +kernel) (by decide +kernel))
theorem lk_X2_49 : tLK RX2 49 mX5_needOf := Or.inr (tWD_i 494 (by decide +kernel) (by decide +kernel))
theorem lk_X2_55 : tLK RX2 55 mX2_regard := Or.inl (tWD_i 640 (by decide +kernel) (by decide +kernel))
theorem lk_X2_59 : tLK RX2 59 mX5_outOf := Or.inr (tWD_i 641 (by decide +kernel) (by decide +kernel))
theorem lk_X2_80 : tLK RX2 80 mX2_against := Or.inl (tWD_i 646 (by decide +kernel) (by decide +kernel))
theorem lk_X2_84 : tLK RX2 84 mX2_isUnfit := Or.inl (tWD_i 502 (by decide +kernel) (by decide +kernel))
theorem lk_X2_88 : tLK RX2 88 mX2_firstNeighbour := Or.inl (tWD_i 513 (by decide +kernel) (by decide +kernel))
theorem lk_X2_91 : tLK RX2 91 mX1_firstCone := Or.inr (tWD_i 541 (by decide +kernel) (by decide +kernel))
theorem lk_X2_94 : tLK RX2 94 mX2_firstTaker := Or.inl (tWD_i 546 (by decide +kernel) (by decide +kernel))
theorem lk_X2_97 : tLK RX2 97 mX1_hasGate := Or.inr (tWD_i 506 (by decide +kernel) (by decide +kernel))
theorem lk_X2_100 : tLK RX2 100 mX6_haveCommonMinute := Or.inr (tWD_i 510 (by decide +kernel) (by decide +kernel))
theorem lk_X2_107 : tLK RX2 107 mX2_isOther := Or.inl (tWD_i 517 (by decide +kernel) (by decide +kernel))
theorem lk_X2_110 : tLK RX2 110 mX2_isNeighbour := Or.inl (tWD_i 521 (by decide +kernel) (by decide +kernel))
theorem lk_X2_116 : tLK RX2 116 mX5_fromOf := Or.inr (tWD_i 525 (by decide +kernel) (by decide +kernel))
theorem lk_X2_120 : tLK RX2 120 mX5_endOf := Or.inr (tWD_i 529 (by decide +kernel) (by decide +kernel))
theorem lk_X2_123 : tLK RX2 123 mX5_standOf := Or.inr (tWD_i 533 (by decide +kernel) (by decide +kernel))
theorem lk_X2_126 : tLK RX2 126 mX1_areTooNear := Or.inr (tWD_i 537 (by decide +kernel) (by decide +kernel))
theorem lk_X2_129 : tLK RX2 129 mX5_isStayAt := Or.inr (tWD_i 550 (by decide +kernel) (by decide +kernel))
theorem lk_X2_133 : tLK RX2 133 mX2_mayShare := Or.inl (tWD_i 554 (by decide +kernel) (by decide +kernel))
theorem lk_X2_137 : tLK RX2 137 mX2_isThirdThere := Or.inl (tWD_i 562 (by decide +kernel) (by decide +kernel))
theorem lk_X2_140 : tLK RX2 140 mX1_halfOf := Or.inr (tWD_i 558 (by decide +kernel) (by decide +kernel))
theorem lk_X3_19 : tLK RX3 19 mX5_inOf := Or.inr (tWD_i 630 (by decide +kernel) (by decide +kernel))
theorem lk_X4_37 : tLK RX4 37 mX4_begin := Or.inl (tWD_i 655 (by decide +kernel) (by decide +kernel))
theorem lk_X4_44 : tLK RX4 44 mX4_goToNextWhole := Or.inl (tWD_i 665 (by decide +kernel) (by decide +kernel))
theorem lk_X4_48 : tLK RX4 48 mX4_takeAllOff := Or.inl (tWD_i 675 (by decide +kernel) (by decide +kernel))
theorem lk_X4_54 : tLK RX4 54 mX4_keepIfBetter := Or.inl (tWD_i 687 (by decide +kernel) (by decide +kernel))
theorem lk_X4_57 : tLK RX4 57 mX4_putBest := Or.inl (tWD_i 695 (by decide +kernel) (by decide +kernel))
theorem lk_X4_60 : tLK RX4 60 mX3_empty := Or.inr (tWD_i 659 (by decide +kernel) (by decide +kernel))
theorem lk_X4_68 : tLK RX4 68 mX5_isToCome := Or.inr (tWD_i 660 (by decide +kernel) (by decide +kernel))
theorem lk_X4_72 : tLK RX4 72 mX3_join := Or.inr (tWD_i 661 (by decide +kernel) (by decide +kernel))
theorem lk_X4_85 : tLK RX4 85 mX5_takeOff := Or.inr (tWD_i 669 (by decide +kernel) (by decide +kernel))
theorem lk_X4_93 : tLK RX4 93 mX2_regard := Or.inr (tWD_i 670 (by decide +kernel) (by decide +kernel))
theorem lk_X4_98 : tLK RX4 98 mX5_inOf := Or.inr (tWD_i 671 (by decide +kernel) (by decide +kernel))
theorem lk_X4_102 : tLK RX4 102 mX5_outOf := Or.inr (tWD_i 672 (by decide +kernel) (by decide +kernel))
theorem lk_X4_105 : tLK RX4 105 mX2_against := Or.inr (tWD_i 673 (by decide +kernel) (by decide +kernel))
theorem lk_X4_109 : tLK RX4 109 mX5_place := Or.inr (tWD_i 674 (by decide +kernel) (by decide +kernel))
theorem lk_X4_113 : tLK RX4 113 mX1_hasGate := Or.inr (tWD_i 691 (by decide +kernel) (by decide +kernel))
theorem lk_X5_34 : tLK RX5 34 mX5_isUnknown := Or.inl (tWD_i 468 (by decide +kernel) (by decide +kernel))
theorem lk_X5_38 : tLK RX5 38 mX5_inOf := Or.inl (tWD_i 469 (by decide +kernel) (by decide +kernel))
theorem lk_X5_45 : tLK RX5 45 mX5_isPut := Or.inl (tWD_i 624 (by decide +kernel) (by decide +kernel))
theorem lk_X5_48 : tLK RX5 48 mX5_hasBegun := Or.inl (tWD_i 625 (by decide +kernel) (by decide +kernel))
theorem lk_X5_51 : tLK RX5 51 mX5_outOf := Or.inl (tWD_i 584 (by decide +kernel) (by decide +kernel))
theorem lk_X5_54 : tLK RX5 54 mX5_isStayAt := Or.inl (tWD_i 796 (by decide +kernel) (by decide +kernel))
theorem lk_X5_58 : tLK RX5 58 mX5_addStay := Or.inl (tWD_i 580 (by decide +kernel) (by decide +kernel))
theorem lk_X5_62 : tLK RX5 62 mX5_endLastStay := Or.inl (tWD_i 733 (by decide +kernel) (by decide +kernel))
theorem lk_L_13 : tLK RL 13 mX6_status := Or.inl (tWD_i 358 (by decide +kernel) (by decide +kernel))
theorem lk_L_17 : tLK RL 17 mX7_status := Or.inl (tWD_i 918 (by decide +kernel) (by decide +kernel))
theorem lk_L_18 : tLK RL 18 mX6_reason := Or.inl (tWD_i 362 (by decide +kernel) (by decide +kernel))
theorem lk_L_22 : tLK RL 22 mX7_reason := Or.inl (tWD_i 922 (by decide +kernel) (by decide +kernel))
theorem lk_L_23 : tLK RL 23 mX6_stand := Or.inl (tWD_i 366 (by decide +kernel) (by decide +kernel))
theorem lk_L_27 : tLK RL 27 mX7_stand := Or.inl (tWD_i 926 (by decide +kernel) (by decide +kernel))
theorem lk_L_28 : tLK RL 28 mX6_ground := Or.inl (tWD_i 385 (by decide +kernel) (by decide +kernel))
theorem lk_L_31 : tLK RL 31 mX7_ground := Or.inl (tWD_i 938 (by decide +kernel) (by decide +kernel))
theorem lk_L_32 : tLK RL 32 mX6_near := Or.inl (tWD_i 393 (by decide +kernel) (by decide +kernel))
theorem lk_L_36 : tLK RL 36 mX7_near := Or.inl (tWD_i 946 (by decide +kernel) (by decide +kernel))
theorem lk_L_37 : tLK RL 37 mX6_cone := Or.inl (tWD_i 401 (by decide +kernel) (by decide +kernel))
theorem lk_L_41 : tLK RL 41 mX7_cone := Or.inl (tWD_i 950 (by decide +kernel) (by decide +kernel))
theorem lk_L_42 : tLK RL 42 mX6_towtime := Or.inl (tWD_i 412 (by decide +kernel) (by decide +kernel))
theorem lk_L_46 : tLK RL 46 mX7_towtime := Or.inl (tWD_i 957 (by decide +kernel) (by decide +kernel))
theorem lk_L_47 : tLK RL 47 mX6_visit := Or.inl (tWD_i 424 (by decide +kernel) (by decide +kernel))
theorem lk_L_51 : tLK RL 51 mX7_visit := Or.inl (tWD_i 961 (by decide +kernel) (by decide +kernel))
theorem lk_L_52 : tLK RL 52 mX6_tear := Or.inl (tWD_i 432 (by decide +kernel) (by decide +kernel))
theorem lk_L_56 : tLK RL 56 mX7_tear := Or.inl (tWD_i 965 (by decide +kernel) (by decide +kernel))
theorem lk_L_57 : tLK RL 57 mX6_told := Or.inl (tWD_i 444 (by decide +kernel) (by decide +kernel))
theorem lk_L_60 : tLK RL 60 mX7_told := Or.inl (tWD_i 977 (by decide +kernel) (by decide +kernel))
theorem lk_L_61 : tLK RL 61 mX6_put := Or.inl (tWD_i 448 (by decide +kernel) (by decide +kernel))
theorem lk_L_64 : tLK RL 64 mX7_put := Or.inl (tWD_i 981 (by decide +kernel) (by decide +kernel))
theorem lk_L_65 : tLK RL 65 mX6_why := Or.inl (tWD_i 585 (by decide +kernel) (by decide +kernel))
theorem lk_L_68 : tLK RL 68 mX7_why := Or.inl (tWD_i 1046 (by decide +kernel) (by decide +kernel))
theorem lk_L_69 : tLK RL 69 mX6_off := Or.inl (tWD_i 589 (by decide +kernel) (by decide +kernel))
theorem lk_L_72 : tLK RL 72 mX7_off := Or.inl (tWD_i 1050 (by decide +kernel) (by decide +kernel))
theorem lk_L_73 : tLK RL 73 mX6_tow := Or.inl (tWD_i 597 (by decide +kernel) (by decide +kernel))
theorem lk_L_77 : tLK RL 77 mX7_tow := Or.inl (tWD_i 1054 (by decide +kernel) (by decide +kernel))
theorem lk_L_78 : tLK RL 78 mX6_plan := Or.inl (tWD_i 612 (by decide +kernel) (by decide +kernel))
theorem lk_L_81 : tLK RL 81 mX7_plan := Or.inl (tWD_i 1062 (by decide +kernel) (by decide +kernel))
theorem lk_L_82 : tLK RL 82 mX6_search := Or.inl (tWD_i 647 (by decide +kernel) (by decide +kernel))
theorem lk_L_85 : tLK RL 85 mX7_search_ := Or.inl (tWD_i 1082 (by decide +kernel) (by decide +kernel))
theorem lk_L_86 : tLK RL 86 mX6_most := Or.inl (tWD_i 679 (by decide +kernel) (by decide +kernel))
theorem lk_L_89 : tLK RL 89 mX7_most := Or.inl (tWD_i 1098 (by decide +kernel) (by decide +kernel))
theorem lk_L_90 : tLK RL 90 mX6_late := Or.inl (tWD_i 699 (by decide +kernel) (by decide +kernel))
theorem lk_L_93 : tLK RL 93 mX7_late := Or.inl (tWD_i 1102 (by decide +kernel) (by decide +kernel))
theorem lk_L_94 : tLK RL 94 mX6_changed := Or.inl (tWD_i 745 (by decide +kernel) (by decide +kernel))
theorem lk_L_97 : tLK RL 97 mX7_changed := Or.inl (tWD_i 1106 (by decide +kernel) (by decide +kernel))
theorem lk_L_98 : tLK RL 98 mX6_now := Or.inl (tWD_i 753 (by decide +kernel) (by decide +kernel))
theorem lk_L_101 : tLK RL 101 mX7_now := Or.inl (tWD_i 1110 (by decide +kernel) (by decide +kernel))
theorem lk_L_102 : tLK RL 102 mX6_waiting := Or.inl (tWD_i 761 (by decide +kernel) (by decide +kernel))
theorem lk_L_105 : tLK RL 105 mX7_waiting := Or.inl (tWD_i 1118 (by decide +kernel) (by decide +kernel))
theorem lk_L_106 : tLK RL 106 mX6_swap := Or.inl (tWD_i 765 (by decide +kernel) (by decide +kernel))
theorem lk_L_109 : tLK RL 109 mX7_swap := Or.inl (tWD_i 1058 (by decide +kernel) (by decide +kernel))
theorem lk_L_110 : tLK RL 110 mX6_stays := Or.inl (tWD_i 780 (by decide +kernel) (by decide +kernel))
theorem lk_L_113 : tLK RL 113 mX7_stays := Or.inl (tWD_i 1122 (by decide +kernel) (by decide +kernel))
theorem lk_L_114 : tLK RL 114 mX6_stay := Or.inl (tWD_i 784 (by decide +kernel) (by decide +kernel))
theorem lk_L_117 : tLK RL 117 mX7_stay := Or.inl (tWD_i 1126 (by decide +kernel) (by decide +kernel))
theorem lk_L_118 : tLK RL 118 mX6_at := Or.inl (tWD_i 788 (by decide +kernel) (by decide +kernel))
theorem lk_L_121 : tLK RL 121 mX7_at := Or.inl (tWD_i 1130 (by decide +kernel) (by decide +kernel))
theorem lk_L_122 : tLK RL 122 mX6_crowd := Or.inl (tWD_i 798 (by decide +kernel) (by decide +kernel))
theorem lk_L_125 : tLK RL 125 mX7_crowd := Or.inl (tWD_i 1134 (by decide +kernel) (by decide +kernel))
theorem lk_X7_92 : tLK RX7 92 mX7_refuse := Or.inl (tWD_i 930 (by decide +kernel) (by decide +kernel))
theorem lk_X7_96 : tLK RX7 96 mX7_gives := Or.inl (tWD_i 934 (by decide +kernel) (by decide +kernel))
theorem lk_X7_99 : tLK RX7 99 mX7_isStand := Or.inl (tWD_i 942 (by decide +kernel) (by decide +kernel))
theorem lk_X7_106 : tLK RX7 106 mX7_isSpan := Or.inl (tWD_i 954 (by decide +kernel) (by decide +kernel))
theorem lk_X7_113 : tLK RX7 113 mX7_isVisit := Or.inl (tWD_i 969 (by decide +kernel) (by decide +kernel))
theorem lk_X7_116 : tLK RX7 116 mX7_isPut := Or.inl (tWD_i 973 (by decide +kernel) (by decide +kernel))
theorem lk_X7_119 : tLK RX7 119 mX7_inOf := Or.inl (tWD_i 993 (by decide +kernel) (by decide +kernel))
theorem lk_X7_137 : tLK RX7 137 mX7_haveCommon := Or.inl (tWD_i 1021 (by decide +kernel) (by decide +kernel))
theorem lk_X7_141 : tLK RX7 141 mX7_isNeighbour := Or.inl (tWD_i 1026 (by decide +kernel) (by decide +kernel))
theorem lk_X7_145 : tLK RX7 145 mX7_takes := Or.inl (tWD_i 1030 (by decide +kernel) (by decide +kernel))
theorem lk_X7_149 : tLK RX7 149 mX7_wingOf := Or.inl (tWD_i 1009 (by decide +kernel) (by decide +kernel))
theorem lk_X7_152 : tLK RX7 152 mX7_isThird := Or.inl (tWD_i 1034 (by decide +kernel) (by decide +kernel))
theorem lk_X7_155 : tLK RX7 155 mX7_kindOf := Or.inl (tWD_i 1005 (by decide +kernel) (by decide +kernel))
theorem lk_X7_158 : tLK RX7 158 mX7_needOf := Or.inl (tWD_i 1013 (by decide +kernel) (by decide +kernel))
theorem lk_X7_161 : tLK RX7 161 mX7_against := Or.inl (tWD_i 1017 (by decide +kernel) (by decide +kernel))
theorem lk_X7_165 : tLK RX7 165 mX7_againstOf := Or.inl (tWD_i 1001 (by decide +kernel) (by decide +kernel))
theorem lk_X7_169 : tLK RX7 169 mX7_rank := Or.inl (tWD_i 1078 (by decide +kernel) (by decide +kernel))
theorem lk_X7_172 : tLK RX7 172 mX7_isUnknown := Or.inl (tWD_i 985 (by decide +kernel) (by decide +kernel))
theorem lk_X7_175 : tLK RX7 175 mX7_hasBegun := Or.inl (tWD_i 989 (by decide +kernel) (by decide +kernel))
theorem lk_X7_178 : tLK RX7 178 mX7_outOf := Or.inl (tWD_i 997 (by decide +kernel) (by decide +kernel))
theorem lk_X7_181 : tLK RX7 181 mX7_isAgainst := Or.inl (tWD_i 1038 (by decide +kernel) (by decide +kernel))
theorem lk_X7_184 : tLK RX7 184 mX7_sets := Or.inl (tWD_i 1042 (by decide +kernel) (by decide +kernel))
theorem lk_X7_191 : tLK RX7 191 mX7_isPlanned := Or.inl (tWD_i 1066 (by decide +kernel) (by decide +kernel))
theorem lk_X7_194 : tLK RX7 194 mX7_lines := Or.inl (tWD_i 1070 (by decide +kernel) (by decide +kernel))
theorem lk_X7_198 : tLK RX7 198 mX7_bestOf := Or.inl (tWD_i 1074 (by decide +kernel) (by decide +kernel))
theorem lk_X7_208 : tLK RX7 208 mX7_whole := Or.inl (tWD_i 1094 (by decide +kernel) (by decide +kernel))
theorem lk_X7_211 : tLK RX7 211 mX7_search := Or.inl (tWD_i 1090 (by decide +kernel) (by decide +kernel))
theorem lk_X7_215 : tLK RX7 215 mX7_found := Or.inl (tWD_i 1086 (by decide +kernel) (by decide +kernel))
theorem lk_X7_222 : tLK RX7 222 mX7_isWaiting := Or.inl (tWD_i 1114 (by decide +kernel) (by decide +kernel))
theorem wm_max_c : tWD (.code Lib.Math.max.name Lib.Math.max.code 2 (some .int)) := tWD_i 568 (by decide +kernel) (by decide +kernel)
theorem wm_max_s : tWD (.static Lib.Math.max.name) := tWD_i 567 (by decide +kernel) (by decide +kernel)
theorem wm_min_c : tWD (.code Lib.Math.min.name Lib.Math.min.code 2 (some .int)) := tWD_i 571 (by decide +kernel) (by decide +kernel)
theorem wm_min_s : tWD (.static Lib.Math.min.name) := tWD_i 570 (by decide +kernel) (by decide +kernel)
theorem wm_i : tWD (.initialized "java/lang/Math") := tWD_i 106 (by decide +kernel) (by decide +kernel)
theorem lm_X6_272 : tWD (.methodLink RX6 272 Lib.Math.max.name) := tWD_i 635 (by decide +kernel) (by decide +kernel)
theorem lm_X2_143 : tWD (.methodLink RX2 143 Lib.Math.max.name) := tWD_i 566 (by decide +kernel) (by decide +kernel)
theorem lm_X2_148 : tWD (.methodLink RX2 148 Lib.Math.min.name) := tWD_i 569 (by decide +kernel) (by decide +kernel)
theorem la_X4_116 : tWD (.methodLink RX4 116 arraycopyName) := tWD_i 692 (by decide +kernel) (by decide +kernel)
theorem lm_X7_125 : tWD (.methodLink RX7 125 Lib.Math.max.name) := tWD_i 1024 (by decide +kernel) (by decide +kernel)
theorem lm_X7_131 : tWD (.methodLink RX7 131 Lib.Math.min.name) := tWD_i 1025 (by decide +kernel) (by decide +kernel)
theorem wa_n : tWD (.native arraycopyName) := tWD_i 694 (by decide +kernel) (by decide +kernel)
theorem wa_s : tWD (.static arraycopyName) := tWD_i 693 (by decide +kernel) (by decide +kernel)
theorem wa_i : tWD (.initialized "java/lang/System") := tWD_i 107 (by decide +kernel) (by decide +kernel)
end
