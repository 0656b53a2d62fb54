section
/-- a private method of a class that the tables say can be made, by its rows of tables_1 -/
def lw_okq (q : MethodName × Nat) : Prop := (q.1.cls ≠ "java/lang/invoke/MethodHandle" ∧ q.1.cls ≠ "java/lang/invoke/VarHandle") ∧ Cond.instantiable q.1.cls q.2 ∈ tables_1 ∧ Cond.privateMethod q.1 ∈ tables_1 ∧ Cond.instanceMethod q.1 ∈ tables_1
theorem lw_p0 : lw_okq (⟨"ApronDesk", "refuse", "(I)I"⟩, 10) := ⟨⟨by decide +kernel, by decide +kernel⟩, List.mem_of_getElem? (i := 12) (by decide +kernel), List.mem_of_getElem? (i := 277) (by decide +kernel), List.mem_of_getElem? (i := 278) (by decide +kernel)⟩
theorem lw_p1 : lw_okq (⟨"ApronDesk$Ground", "addStand", "(II)I"⟩, 12) := ⟨⟨by decide +kernel, by decide +kernel⟩, List.mem_of_getElem? (i := 20) (by decide +kernel), List.mem_of_getElem? (i := 281) (by decide +kernel), List.mem_of_getElem? (i := 282) (by decide +kernel)⟩
theorem lw_p2 : lw_okq (⟨"ApronDesk", "grant", "(I)I"⟩, 10) := ⟨⟨by decide +kernel, by decide +kernel⟩, List.mem_of_getElem? (i := 12) (by decide +kernel), List.mem_of_getElem? (i := 285) (by decide +kernel), List.mem_of_getElem? (i := 286) (by decide +kernel)⟩
theorem lw_p3 : lw_okq (⟨"ApronDesk$Ground", "hasStand", "(I)Z"⟩, 12) := ⟨⟨by decide +kernel, by decide +kernel⟩, List.mem_of_getElem? (i := 20) (by decide +kernel), List.mem_of_getElem? (i := 293) (by decide +kernel), List.mem_of_getElem? (i := 294) (by decide +kernel)⟩
theorem lw_p4 : lw_okq (⟨"ApronDesk$Ground", "addPair", "(IIII)I"⟩, 12) := ⟨⟨by decide +kernel, by decide +kernel⟩, List.mem_of_getElem? (i := 20) (by decide +kernel), List.mem_of_getElem? (i := 301) (by decide +kernel), List.mem_of_getElem? (i := 302) (by decide +kernel)⟩
theorem lw_p5 : lw_okq (⟨"ApronDesk$Ground", "addCone", "(III)I"⟩, 12) := ⟨⟨by decide +kernel, by decide +kernel⟩, List.mem_of_getElem? (i := 20) (by decide +kernel), List.mem_of_getElem? (i := 312) (by decide +kernel), List.mem_of_getElem? (i := 313) (by decide +kernel)⟩
theorem lw_p6 : lw_okq (⟨"ApronDesk", "deny", "(I)Z"⟩, 10) := ⟨⟨by decide +kernel, by decide +kernel⟩, List.mem_of_getElem? (i := 12) (by decide +kernel), List.mem_of_getElem? (i := 320) (by decide +kernel), List.mem_of_getElem? (i := 321) (by decide +kernel)⟩
theorem lw_p7 : lw_okq (⟨"ApronDesk", "allow", "()Z"⟩, 10) := ⟨⟨by decide +kernel, by decide +kernel⟩, List.mem_of_getElem? (i := 12) (by decide +kernel), List.mem_of_getElem? (i := 324) (by decide +kernel), List.mem_of_getElem? (i := 325) (by decide +kernel)⟩
theorem lw_p8 : lw_okq (⟨"ApronDesk$Visits", "add", "(IIIII)I"⟩, 8) := ⟨⟨by decide +kernel, by decide +kernel⟩, List.mem_of_getElem? (i := 73) (by decide +kernel), List.mem_of_getElem? (i := 332) (by decide +kernel), List.mem_of_getElem? (i := 333) (by decide +kernel)⟩
theorem lw_p9 : lw_okq (⟨"ApronDesk$Visits", "has", "(I)Z"⟩, 8) := ⟨⟨by decide +kernel, by decide +kernel⟩, List.mem_of_getElem? (i := 73) (by decide +kernel), List.mem_of_getElem? (i := 340) (by decide +kernel), List.mem_of_getElem? (i := 341) (by decide +kernel)⟩
theorem lw_p10 : lw_okq (⟨"ApronDesk$Visits", "isPut", "(I)Z"⟩, 8) := ⟨⟨by decide +kernel, by decide +kernel⟩, List.mem_of_getElem? (i := 73) (by decide +kernel), List.mem_of_getElem? (i := 344) (by decide +kernel), List.mem_of_getElem? (i := 345) (by decide +kernel)⟩
theorem lw_p11 : lw_okq (⟨"ApronDesk", "faultOfPutting", "(II)I"⟩, 10) := ⟨⟨by decide +kernel, by decide +kernel⟩, List.mem_of_getElem? (i := 12) (by decide +kernel), List.mem_of_getElem? (i := 356) (by decide +kernel), List.mem_of_getElem? (i := 357) (by decide +kernel)⟩
theorem lw_p12 : lw_okq (⟨"ApronDesk", "faultOfLooking", "(II)I"⟩, 10) := ⟨⟨by decide +kernel, by decide +kernel⟩, List.mem_of_getElem? (i := 12) (by decide +kernel), List.mem_of_getElem? (i := 360) (by decide +kernel), List.mem_of_getElem? (i := 361) (by decide +kernel)⟩
theorem lw_p13 : lw_okq (⟨"ApronDesk$Visits", "isUnknown", "(I)Z"⟩, 8) := ⟨⟨by decide +kernel, by decide +kernel⟩, List.mem_of_getElem? (i := 73) (by decide +kernel), List.mem_of_getElem? (i := 364) (by decide +kernel), List.mem_of_getElem? (i := 365) (by decide +kernel)⟩
theorem lw_p14 : lw_okq (⟨"ApronDesk$Visits", "hasBegun", "(I)Z"⟩, 8) := ⟨⟨by decide +kernel, by decide +kernel⟩, List.mem_of_getElem? (i := 73) (by decide +kernel), List.mem_of_getElem? (i := 368) (by decide +kernel), List.mem_of_getElem? (i := 369) (by decide +kernel)⟩
theorem lw_p15 : lw_okq (⟨"ApronDesk$Visits", "inOf", "(I)I"⟩, 8) := ⟨⟨by decide +kernel, by decide +kernel⟩, List.mem_of_getElem? (i := 73) (by decide +kernel), List.mem_of_getElem? (i := 373) (by decide +kernel), List.mem_of_getElem? (i := 374) (by decide +kernel)⟩
def lw_privs_1 : List (MethodName × Nat) := [(⟨"ApronDesk", "refuse", "(I)I"⟩, 10), (⟨"ApronDesk$Ground", "addStand", "(II)I"⟩, 12), (⟨"ApronDesk", "grant", "(I)I"⟩, 10), (⟨"ApronDesk$Ground", "hasStand", "(I)Z"⟩, 12), (⟨"ApronDesk$Ground", "addPair", "(IIII)I"⟩, 12), (⟨"ApronDesk$Ground", "addCone", "(III)I"⟩, 12), (⟨"ApronDesk", "deny", "(I)Z"⟩, 10), (⟨"ApronDesk", "allow", "()Z"⟩, 10), (⟨"ApronDesk$Visits", "add", "(IIIII)I"⟩, 8), (⟨"ApronDesk$Visits", "has", "(I)Z"⟩, 8), (⟨"ApronDesk$Visits", "isPut", "(I)Z"⟩, 8), (⟨"ApronDesk", "faultOfPutting", "(II)I"⟩, 10), (⟨"ApronDesk", "faultOfLooking", "(II)I"⟩, 10), (⟨"ApronDesk$Visits", "isUnknown", "(I)Z"⟩, 8), (⟨"ApronDesk$Visits", "hasBegun", "(I)Z"⟩, 8), (⟨"ApronDesk$Visits", "inOf", "(I)I"⟩, 8)]
theorem lw_r1 : ∀ q ∈ lw_privs_1, lw_okq q := List.forall_mem_cons.mpr ⟨lw_p0, List.forall_mem_cons.mpr ⟨lw_p1, List.forall_mem_cons.mpr ⟨lw_p2, List.forall_mem_cons.mpr ⟨lw_p3, List.forall_mem_cons.mpr ⟨lw_p4, List.forall_mem_cons.mpr ⟨lw_p5, List.forall_mem_cons.mpr ⟨lw_p6, List.forall_mem_cons.mpr ⟨lw_p7, List.forall_mem_cons.mpr ⟨lw_p8, List.forall_mem_cons.mpr ⟨lw_p9, List.forall_mem_cons.mpr ⟨lw_p10, List.forall_mem_cons.mpr ⟨lw_p11, List.forall_mem_cons.mpr ⟨lw_p12, List.forall_mem_cons.mpr ⟨lw_p13, List.forall_mem_cons.mpr ⟨lw_p14, List.forall_mem_cons.mpr ⟨lw_p15, fun _ h => absurd h List.not_mem_nil⟩⟩⟩⟩⟩⟩⟩⟩⟩⟩⟩⟩⟩⟩⟩⟩
theorem lw_p16 : lw_okq (⟨"ApronDesk$Visits", "outOf", "(I)I"⟩, 8) := ⟨⟨by decide +kernel, by decide +kernel⟩, List.mem_of_getElem? (i := 73) (by decide +kernel), List.mem_of_getElem? (i := 378) (by decide +kernel), List.mem_of_getElem? (i := 379) (by decide +kernel)⟩
theorem lw_p17 : lw_okq (⟨"ApronDesk", "isHindered", "(IIII)Z"⟩, 10) := ⟨⟨by decide +kernel, by decide +kernel⟩, List.mem_of_getElem? (i := 12) (by decide +kernel), List.mem_of_getElem? (i := 382) (by decide +kernel), List.mem_of_getElem? (i := 383) (by decide +kernel)⟩
theorem lw_p18 : lw_okq (⟨"ApronDesk$Judge", "regard", "(I)V"⟩, 8) := ⟨⟨by decide +kernel, by decide +kernel⟩, List.mem_of_getElem? (i := 114) (by decide +kernel), List.mem_of_getElem? (i := 386) (by decide +kernel), List.mem_of_getElem? (i := 387) (by decide +kernel)⟩
theorem lw_p19 : lw_okq (⟨"ApronDesk$Visits", "kindOf", "(I)I"⟩, 8) := ⟨⟨by decide +kernel, by decide +kernel⟩, List.mem_of_getElem? (i := 73) (by decide +kernel), List.mem_of_getElem? (i := 390) (by decide +kernel), List.mem_of_getElem? (i := 391) (by decide +kernel)⟩
theorem lw_p20 : lw_okq (⟨"ApronDesk$Visits", "wingOf", "(I)I"⟩, 8) := ⟨⟨by decide +kernel, by decide +kernel⟩, List.mem_of_getElem? (i := 73) (by decide +kernel), List.mem_of_getElem? (i := 394) (by decide +kernel), List.mem_of_getElem? (i := 395) (by decide +kernel)⟩
theorem lw_p21 : lw_okq (⟨"ApronDesk$Visits", "needOf", "(I)I"⟩, 8) := ⟨⟨by decide +kernel, by decide +kernel⟩, List.mem_of_getElem? (i := 73) (by decide +kernel), List.mem_of_getElem? (i := 398) (by decide +kernel), List.mem_of_getElem? (i := 399) (by decide +kernel)⟩
theorem lw_p22 : lw_okq (⟨"ApronDesk$Judge", "against", "(III)I"⟩, 8) := ⟨⟨by decide +kernel, by decide +kernel⟩, List.mem_of_getElem? (i := 114) (by decide +kernel), List.mem_of_getElem? (i := 402) (by decide +kernel), List.mem_of_getElem? (i := 403) (by decide +kernel)⟩
theorem lw_p23 : lw_okq (⟨"ApronDesk$Judge", "isUnfit", "(III)Z"⟩, 8) := ⟨⟨by decide +kernel, by decide +kernel⟩, List.mem_of_getElem? (i := 114) (by decide +kernel), List.mem_of_getElem? (i := 406) (by decide +kernel), List.mem_of_getElem? (i := 407) (by decide +kernel)⟩
theorem lw_p24 : lw_okq (⟨"ApronDesk$Ground", "hasGate", "(I)Z"⟩, 12) := ⟨⟨by decide +kernel, by decide +kernel⟩, List.mem_of_getElem? (i := 20) (by decide +kernel), List.mem_of_getElem? (i := 410) (by decide +kernel), List.mem_of_getElem? (i := 411) (by decide +kernel)⟩
theorem lw_p25 : lw_okq (⟨"ApronDesk$Judge", "firstNeighbour", "(III)I"⟩, 8) := ⟨⟨by decide +kernel, by decide +kernel⟩, List.mem_of_getElem? (i := 114) (by decide +kernel), List.mem_of_getElem? (i := 417) (by decide +kernel), List.mem_of_getElem? (i := 418) (by decide +kernel)⟩
theorem lw_p26 : lw_okq (⟨"ApronDesk$Judge", "isOther", "(I)Z"⟩, 8) := ⟨⟨by decide +kernel, by decide +kernel⟩, List.mem_of_getElem? (i := 114) (by decide +kernel), List.mem_of_getElem? (i := 421) (by decide +kernel), List.mem_of_getElem? (i := 422) (by decide +kernel)⟩
theorem lw_p27 : lw_okq (⟨"ApronDesk$Judge", "isNeighbour", "(IIII)Z"⟩, 8) := ⟨⟨by decide +kernel, by decide +kernel⟩, List.mem_of_getElem? (i := 114) (by decide +kernel), List.mem_of_getElem? (i := 425) (by decide +kernel), List.mem_of_getElem? (i := 426) (by decide +kernel)⟩
theorem lw_p28 : lw_okq (⟨"ApronDesk$Visits", "fromOf", "(II)I"⟩, 8) := ⟨⟨by decide +kernel, by decide +kernel⟩, List.mem_of_getElem? (i := 73) (by decide +kernel), List.mem_of_getElem? (i := 429) (by decide +kernel), List.mem_of_getElem? (i := 430) (by decide +kernel)⟩
theorem lw_p29 : lw_okq (⟨"ApronDesk$Visits", "endOf", "(II)I"⟩, 8) := ⟨⟨by decide +kernel, by decide +kernel⟩, List.mem_of_getElem? (i := 73) (by decide +kernel), List.mem_of_getElem? (i := 433) (by decide +kernel), List.mem_of_getElem? (i := 434) (by decide +kernel)⟩
theorem lw_p30 : lw_okq (⟨"ApronDesk$Visits", "standOf", "(II)I"⟩, 8) := ⟨⟨by decide +kernel, by decide +kernel⟩, List.mem_of_getElem? (i := 73) (by decide +kernel), List.mem_of_getElem? (i := 437) (by decide +kernel), List.mem_of_getElem? (i := 438) (by decide +kernel)⟩
theorem lw_p31 : lw_okq (⟨"ApronDesk$Ground", "areTooNear", "(IIII)Z"⟩, 12) := ⟨⟨by decide +kernel, by decide +kernel⟩, List.mem_of_getElem? (i := 20) (by decide +kernel), List.mem_of_getElem? (i := 441) (by decide +kernel), List.mem_of_getElem? (i := 442) (by decide +kernel)⟩
def lw_privs_2 : List (MethodName × Nat) := [(⟨"ApronDesk$Visits", "outOf", "(I)I"⟩, 8), (⟨"ApronDesk", "isHindered", "(IIII)Z"⟩, 10), (⟨"ApronDesk$Judge", "regard", "(I)V"⟩, 8), (⟨"ApronDesk$Visits", "kindOf", "(I)I"⟩, 8), (⟨"ApronDesk$Visits", "wingOf", "(I)I"⟩, 8), (⟨"ApronDesk$Visits", "needOf", "(I)I"⟩, 8), (⟨"ApronDesk$Judge", "against", "(III)I"⟩, 8), (⟨"ApronDesk$Judge", "isUnfit", "(III)Z"⟩, 8), (⟨"ApronDesk$Ground", "hasGate", "(I)Z"⟩, 12), (⟨"ApronDesk$Judge", "firstNeighbour", "(III)I"⟩, 8), (⟨"ApronDesk$Judge", "isOther", "(I)Z"⟩, 8), (⟨"ApronDesk$Judge", "isNeighbour", "(IIII)Z"⟩, 8), (⟨"ApronDesk$Visits", "fromOf", "(II)I"⟩, 8), (⟨"ApronDesk$Visits", "endOf", "(II)I"⟩, 8), (⟨"ApronDesk$Visits", "standOf", "(II)I"⟩, 8), (⟨"ApronDesk$Ground", "areTooNear", "(IIII)Z"⟩, 12)]
theorem lw_r2 : ∀ q ∈ lw_privs_2, lw_okq q := List.forall_mem_cons.mpr ⟨lw_p16, List.forall_mem_cons.mpr ⟨lw_p17, List.forall_mem_cons.mpr ⟨lw_p18, List.forall_mem_cons.mpr ⟨lw_p19, List.forall_mem_cons.mpr ⟨lw_p20, List.forall_mem_cons.mpr ⟨lw_p21, List.forall_mem_cons.mpr ⟨lw_p22, List.forall_mem_cons.mpr ⟨lw_p23, List.forall_mem_cons.mpr ⟨lw_p24, List.forall_mem_cons.mpr ⟨lw_p25, List.forall_mem_cons.mpr ⟨lw_p26, List.forall_mem_cons.mpr ⟨lw_p27, List.forall_mem_cons.mpr ⟨lw_p28, List.forall_mem_cons.mpr ⟨lw_p29, List.forall_mem_cons.mpr ⟨lw_p30, List.forall_mem_cons.mpr ⟨lw_p31, fun _ h => absurd h List.not_mem_nil⟩⟩⟩⟩⟩⟩⟩⟩⟩⟩⟩⟩⟩⟩⟩⟩
theorem lw_p32 : lw_okq (⟨"ApronDesk$Ground", "firstCone", "(III)I"⟩, 12) := ⟨⟨by decide +kernel, by decide +kernel⟩, List.mem_of_getElem? (i := 20) (by decide +kernel), List.mem_of_getElem? (i := 445) (by decide +kernel), List.mem_of_getElem? (i := 446) (by decide +kernel)⟩
theorem lw_p33 : lw_okq (⟨"ApronDesk$Judge", "firstTaker", "(III)I"⟩, 8) := ⟨⟨by decide +kernel, by decide +kernel⟩, List.mem_of_getElem? (i := 114) (by decide +kernel), List.mem_of_getElem? (i := 450) (by decide +kernel), List.mem_of_getElem? (i := 451) (by decide +kernel)⟩
theorem lw_p34 : lw_okq (⟨"ApronDesk$Visits", "isStayAt", "(IIIII)Z"⟩, 8) := ⟨⟨by decide +kernel, by decide +kernel⟩, List.mem_of_getElem? (i := 73) (by decide +kernel), List.mem_of_getElem? (i := 454) (by decide +kernel), List.mem_of_getElem? (i := 455) (by decide +kernel)⟩
theorem lw_p35 : lw_okq (⟨"ApronDesk$Judge", "mayShare", "(II)Z"⟩, 8) := ⟨⟨by decide +kernel, by decide +kernel⟩, List.mem_of_getElem? (i := 114) (by decide +kernel), List.mem_of_getElem? (i := 458) (by decide +kernel), List.mem_of_getElem? (i := 459) (by decide +kernel)⟩
theorem lw_p36 : lw_okq (⟨"ApronDesk$Ground", "halfOf", "(I)I"⟩, 12) := ⟨⟨by decide +kernel, by decide +kernel⟩, List.mem_of_getElem? (i := 20) (by decide +kernel), List.mem_of_getElem? (i := 462) (by decide +kernel), List.mem_of_getElem? (i := 463) (by decide +kernel)⟩
theorem lw_p37 : lw_okq (⟨"ApronDesk$Judge", "isThirdThere", "(IIII)Z"⟩, 8) := ⟨⟨by decide +kernel, by decide +kernel⟩, List.mem_of_getElem? (i := 114) (by decide +kernel), List.mem_of_getElem? (i := 466) (by decide +kernel), List.mem_of_getElem? (i := 467) (by decide +kernel)⟩
theorem lw_p38 : lw_okq (⟨"ApronDesk", "keepReason", "(I)V"⟩, 10) := ⟨⟨by decide +kernel, by decide +kernel⟩, List.mem_of_getElem? (i := 12) (by decide +kernel), List.mem_of_getElem? (i := 476) (by decide +kernel), List.mem_of_getElem? (i := 477) (by decide +kernel)⟩
theorem lw_p39 : lw_okq (⟨"ApronDesk$Visits", "place", "(III)Z"⟩, 8) := ⟨⟨by decide +kernel, by decide +kernel⟩, List.mem_of_getElem? (i := 73) (by decide +kernel), List.mem_of_getElem? (i := 480) (by decide +kernel), List.mem_of_getElem? (i := 481) (by decide +kernel)⟩
theorem lw_p40 : lw_okq (⟨"ApronDesk$Visits", "addStay", "(III)V"⟩, 8) := ⟨⟨by decide +kernel, by decide +kernel⟩, List.mem_of_getElem? (i := 73) (by decide +kernel), List.mem_of_getElem? (i := 484) (by decide +kernel), List.mem_of_getElem? (i := 485) (by decide +kernel)⟩
theorem lw_p41 : lw_okq (⟨"ApronDesk$Visits", "takeOff", "(I)V"⟩, 8) := ⟨⟨by decide +kernel, by decide +kernel⟩, List.mem_of_getElem? (i := 73) (by decide +kernel), List.mem_of_getElem? (i := 497) (by decide +kernel), List.mem_of_getElem? (i := 498) (by decide +kernel)⟩
theorem lw_p42 : lw_okq (⟨"ApronDesk", "faultOfTowing", "(III)I"⟩, 10) := ⟨⟨by decide +kernel, by decide +kernel⟩, List.mem_of_getElem? (i := 12) (by decide +kernel), List.mem_of_getElem? (i := 505) (by decide +kernel), List.mem_of_getElem? (i := 506) (by decide +kernel)⟩
theorem lw_p43 : lw_okq (⟨"ApronDesk$Visits", "endLastStay", "(II)V"⟩, 8) := ⟨⟨by decide +kernel, by decide +kernel⟩, List.mem_of_getElem? (i := 73) (by decide +kernel), List.mem_of_getElem? (i := 511) (by decide +kernel), List.mem_of_getElem? (i := 512) (by decide +kernel)⟩
theorem lw_p44 : lw_okq (⟨"ApronDesk$Line", "empty", "()V"⟩, 2) := ⟨⟨by decide +kernel, by decide +kernel⟩, List.mem_of_getElem? (i := 155) (by decide +kernel), List.mem_of_getElem? (i := 520) (by decide +kernel), List.mem_of_getElem? (i := 521) (by decide +kernel)⟩
theorem lw_p45 : lw_okq (⟨"ApronDesk$Visits", "isToCome", "(I)Z"⟩, 8) := ⟨⟨by decide +kernel, by decide +kernel⟩, List.mem_of_getElem? (i := 73) (by decide +kernel), List.mem_of_getElem? (i := 524) (by decide +kernel), List.mem_of_getElem? (i := 525) (by decide +kernel)⟩
theorem lw_p46 : lw_okq (⟨"ApronDesk$Line", "joinByIn", "(ILApronDesk$Visits;)V"⟩, 2) := ⟨⟨by decide +kernel, by decide +kernel⟩, List.mem_of_getElem? (i := 155) (by decide +kernel), List.mem_of_getElem? (i := 530) (by decide +kernel), List.mem_of_getElem? (i := 531) (by decide +kernel)⟩
theorem lw_p47 : lw_okq (⟨"ApronDesk", "serveLine", "()I"⟩, 10) := ⟨⟨by decide +kernel, by decide +kernel⟩, List.mem_of_getElem? (i := 12) (by decide +kernel), List.mem_of_getElem? (i := 535) (by decide +kernel), List.mem_of_getElem? (i := 536) (by decide +kernel)⟩
def lw_privs_3 : List (MethodName × Nat) := [(⟨"ApronDesk$Ground", "firstCone", "(III)I"⟩, 12), (⟨"ApronDesk$Judge", "firstTaker", "(III)I"⟩, 8), (⟨"ApronDesk$Visits", "isStayAt", "(IIIII)Z"⟩, 8), (⟨"ApronDesk$Judge", "mayShare", "(II)Z"⟩, 8), (⟨"ApronDesk$Ground", "halfOf", "(I)I"⟩, 12), (⟨"ApronDesk$Judge", "isThirdThere", "(IIII)Z"⟩, 8), (⟨"ApronDesk", "keepReason", "(I)V"⟩, 10), (⟨"ApronDesk$Visits", "place", "(III)Z"⟩, 8), (⟨"ApronDesk$Visits", "addStay", "(III)V"⟩, 8), (⟨"ApronDesk$Visits", "takeOff", "(I)V"⟩, 8), (⟨"ApronDesk", "faultOfTowing", "(III)I"⟩, 10), (⟨"ApronDesk$Visits", "endLastStay", "(II)V"⟩, 8), (⟨"ApronDesk$Line", "empty", "()V"⟩, 2), (⟨"ApronDesk$Visits", "isToCome", "(I)Z"⟩, 8), (⟨"ApronDesk$Line", "joinByIn", "(ILApronDesk$Visits;)V"⟩, 2), (⟨"ApronDesk", "serveLine", "()I"⟩, 10)]
theorem lw_r3 : ∀ q ∈ lw_privs_3, lw_okq q := List.forall_mem_cons.mpr ⟨lw_p32, List.forall_mem_cons.mpr ⟨lw_p33, List.forall_mem_cons.mpr ⟨lw_p34, List.forall_mem_cons.mpr ⟨lw_p35, List.forall_mem_cons.mpr ⟨lw_p36, List.forall_mem_cons.mpr ⟨lw_p37, List.forall_mem_cons.mpr ⟨lw_p38, List.forall_mem_cons.mpr ⟨lw_p39, List.forall_mem_cons.mpr ⟨lw_p40, List.forall_mem_cons.mpr ⟨lw_p41, List.forall_mem_cons.mpr ⟨lw_p42, List.forall_mem_cons.mpr ⟨lw_p43, List.forall_mem_cons.mpr ⟨lw_p44, List.forall_mem_cons.mpr ⟨lw_p45, List.forall_mem_cons.mpr ⟨lw_p46, List.forall_mem_cons.mpr ⟨lw_p47, fun _ h => absurd h List.not_mem_nil⟩⟩⟩⟩⟩⟩⟩⟩⟩⟩⟩⟩⟩⟩⟩⟩
theorem lw_p48 : lw_okq (⟨"ApronDesk$Judge", "bestStand", "(II)I"⟩, 8) := ⟨⟨by decide +kernel, by decide +kernel⟩, List.mem_of_getElem? (i := 114) (by decide +kernel), List.mem_of_getElem? (i := 540) (by decide +kernel), List.mem_of_getElem? (i := 541) (by decide +kernel)⟩
theorem lw_p49 : lw_okq (⟨"ApronDesk$Searcher", "takeFirst", "()I"⟩, 9) := ⟨⟨by decide +kernel, by decide +kernel⟩, List.mem_of_getElem? (i := 149) (by decide +kernel), List.mem_of_getElem? (i := 555) (by decide +kernel), List.mem_of_getElem? (i := 556) (by decide +kernel)⟩
theorem lw_p50 : lw_okq (⟨"ApronDesk$Searcher", "begin", "()V"⟩, 9) := ⟨⟨by decide +kernel, by decide +kernel⟩, List.mem_of_getElem? (i := 149) (by decide +kernel), List.mem_of_getElem? (i := 559) (by decide +kernel), List.mem_of_getElem? (i := 560) (by decide +kernel)⟩
theorem lw_p51 : lw_okq (⟨"ApronDesk$Line", "join", "(I)V"⟩, 2) := ⟨⟨by decide +kernel, by decide +kernel⟩, List.mem_of_getElem? (i := 155) (by decide +kernel), List.mem_of_getElem? (i := 565) (by decide +kernel), List.mem_of_getElem? (i := 566) (by decide +kernel)⟩
theorem lw_p52 : lw_okq (⟨"ApronDesk$Searcher", "goToNextWhole", "()I"⟩, 9) := ⟨⟨by decide +kernel, by decide +kernel⟩, List.mem_of_getElem? (i := 149) (by decide +kernel), List.mem_of_getElem? (i := 569) (by decide +kernel), List.mem_of_getElem? (i := 570) (by decide +kernel)⟩
theorem lw_p53 : lw_okq (⟨"ApronDesk$Searcher", "takeAllOff", "()V"⟩, 9) := ⟨⟨by decide +kernel, by decide +kernel⟩, List.mem_of_getElem? (i := 149) (by decide +kernel), List.mem_of_getElem? (i := 579) (by decide +kernel), List.mem_of_getElem? (i := 580) (by decide +kernel)⟩
theorem lw_p54 : lw_okq (⟨"ApronDesk$Searcher", "takeBest", "()I"⟩, 9) := ⟨⟨by decide +kernel, by decide +kernel⟩, List.mem_of_getElem? (i := 149) (by decide +kernel), List.mem_of_getElem? (i := 587) (by decide +kernel), List.mem_of_getElem? (i := 588) (by decide +kernel)⟩
theorem lw_p55 : lw_okq (⟨"ApronDesk$Searcher", "keepIfBetter", "()V"⟩, 9) := ⟨⟨by decide +kernel, by decide +kernel⟩, List.mem_of_getElem? (i := 149) (by decide +kernel), List.mem_of_getElem? (i := 591) (by decide +kernel), List.mem_of_getElem? (i := 592) (by decide +kernel)⟩
theorem lw_p56 : lw_okq (⟨"ApronDesk$Searcher", "putBest", "()V"⟩, 9) := ⟨⟨by decide +kernel, by decide +kernel⟩, List.mem_of_getElem? (i := 149) (by decide +kernel), List.mem_of_getElem? (i := 599) (by decide +kernel), List.mem_of_getElem? (i := 600) (by decide +kernel)⟩
theorem lw_p57 : lw_okq (⟨"ApronDesk$Delay", "makeRoom", "(II)I"⟩, 5) := ⟨⟨by decide +kernel, by decide +kernel⟩, List.mem_of_getElem? (i := 204) (by decide +kernel), List.mem_of_getElem? (i := 607) (by decide +kernel), List.mem_of_getElem? (i := 608) (by decide +kernel)⟩
theorem lw_p58 : lw_okq (⟨"ApronDesk$Delay", "canGo", "(I)Z"⟩, 5) := ⟨⟨by decide +kernel, by decide +kernel⟩, List.mem_of_getElem? (i := 204) (by decide +kernel), List.mem_of_getElem? (i := 615) (by decide +kernel), List.mem_of_getElem? (i := 616) (by decide +kernel)⟩
theorem lw_p59 : lw_okq (⟨"ApronDesk$Judge", "sendAway", "(I)V"⟩, 8) := ⟨⟨by decide +kernel, by decide +kernel⟩, List.mem_of_getElem? (i := 114) (by decide +kernel), List.mem_of_getElem? (i := 620) (by decide +kernel), List.mem_of_getElem? (i := 621) (by decide +kernel)⟩
theorem lw_p60 : lw_okq (⟨"ApronDesk$Judge", "callAllBack", "()V"⟩, 8) := ⟨⟨by decide +kernel, by decide +kernel⟩, List.mem_of_getElem? (i := 114) (by decide +kernel), List.mem_of_getElem? (i := 625) (by decide +kernel), List.mem_of_getElem? (i := 626) (by decide +kernel)⟩
theorem lw_p61 : lw_okq (⟨"ApronDesk$Delay", "bend", "(II)I"⟩, 5) := ⟨⟨by decide +kernel, by decide +kernel⟩, List.mem_of_getElem? (i := 204) (by decide +kernel), List.mem_of_getElem? (i := 629) (by decide +kernel), List.mem_of_getElem? (i := 630) (by decide +kernel)⟩
theorem lw_p62 : lw_okq (⟨"ApronDesk$Visits", "makeLate", "(II)V"⟩, 8) := ⟨⟨by decide +kernel, by decide +kernel⟩, List.mem_of_getElem? (i := 73) (by decide +kernel), List.mem_of_getElem? (i := 633) (by decide +kernel), List.mem_of_getElem? (i := 634) (by decide +kernel)⟩
theorem lw_p63 : lw_okq (⟨"ApronDesk$Delay", "takeMoversOff", "()V"⟩, 5) := ⟨⟨by decide +kernel, by decide +kernel⟩, List.mem_of_getElem? (i := 204) (by decide +kernel), List.mem_of_getElem? (i := 638) (by decide +kernel), List.mem_of_getElem? (i := 639) (by decide +kernel)⟩
def lw_privs_4 : List (MethodName × Nat) := [(⟨"ApronDesk$Judge", "bestStand", "(II)I"⟩, 8), (⟨"ApronDesk$Searcher", "takeFirst", "()I"⟩, 9), (⟨"ApronDesk$Searcher", "begin", "()V"⟩, 9), (⟨"ApronDesk$Line", "join", "(I)V"⟩, 2), (⟨"ApronDesk$Searcher", "goToNextWhole", "()I"⟩, 9), (⟨"ApronDesk$Searcher", "takeAllOff", "()V"⟩, 9), (⟨"ApronDesk$Searcher", "takeBest", "()I"⟩, 9), (⟨"ApronDesk$Searcher", "keepIfBetter", "()V"⟩, 9), (⟨"ApronDesk$Searcher", "putBest", "()V"⟩, 9), (⟨"ApronDesk$Delay", "makeRoom", "(II)I"⟩, 5), (⟨"ApronDesk$Delay", "canGo", "(I)Z"⟩, 5), (⟨"ApronDesk$Judge", "sendAway", "(I)V"⟩, 8), (⟨"ApronDesk$Judge", "callAllBack", "()V"⟩, 8), (⟨"ApronDesk$Delay", "bend", "(II)I"⟩, 5), (⟨"ApronDesk$Visits", "makeLate", "(II)V"⟩, 8), (⟨"ApronDesk$Delay", "takeMoversOff", "()V"⟩, 5)]
theorem lw_r4 : ∀ q ∈ lw_privs_4, lw_okq q := List.forall_mem_cons.mpr ⟨lw_p48, List.forall_mem_cons.mpr ⟨lw_p49, List.forall_mem_cons.mpr ⟨lw_p50, List.forall_mem_cons.mpr ⟨lw_p51, List.forall_mem_cons.mpr ⟨lw_p52, List.forall_mem_cons.mpr ⟨lw_p53, List.forall_mem_cons.mpr ⟨lw_p54, List.forall_mem_cons.mpr ⟨lw_p55, List.forall_mem_cons.mpr ⟨lw_p56, List.forall_mem_cons.mpr ⟨lw_p57, List.forall_mem_cons.mpr ⟨lw_p58, List.forall_mem_cons.mpr ⟨lw_p59, List.forall_mem_cons.mpr ⟨lw_p60, List.forall_mem_cons.mpr ⟨lw_p61, List.forall_mem_cons.mpr ⟨lw_p62, List.forall_mem_cons.mpr ⟨lw_p63, fun _ h => absurd h List.not_mem_nil⟩⟩⟩⟩⟩⟩⟩⟩⟩⟩⟩⟩⟩⟩⟩⟩
theorem lw_p64 : lw_okq (⟨"ApronDesk$Line", "memberAt", "(I)I"⟩, 2) := ⟨⟨by decide +kernel, by decide +kernel⟩, List.mem_of_getElem? (i := 155) (by decide +kernel), List.mem_of_getElem? (i := 653) (by decide +kernel), List.mem_of_getElem? (i := 654) (by decide +kernel)⟩
theorem lw_p65 : lw_okq (⟨"ApronDesk$Visits", "isWaiting", "(I)Z"⟩, 8) := ⟨⟨by decide +kernel, by decide +kernel⟩, List.mem_of_getElem? (i := 73) (by decide +kernel), List.mem_of_getElem? (i := 661) (by decide +kernel), List.mem_of_getElem? (i := 662) (by decide +kernel)⟩
theorem lw_p66 : lw_okq (⟨"ApronDesk", "faultOfSwapping", "(II)I"⟩, 10) := ⟨⟨by decide +kernel, by decide +kernel⟩, List.mem_of_getElem? (i := 12) (by decide +kernel), List.mem_of_getElem? (i := 673) (by decide +kernel), List.mem_of_getElem? (i := 674) (by decide +kernel)⟩
theorem lw_p67 : lw_okq (⟨"ApronDesk$Visits", "moveFirstStay", "(II)V"⟩, 8) := ⟨⟨by decide +kernel, by decide +kernel⟩, List.mem_of_getElem? (i := 73) (by decide +kernel), List.mem_of_getElem? (i := 680) (by decide +kernel), List.mem_of_getElem? (i := 681) (by decide +kernel)⟩
theorem lw_p68 : lw_okq (⟨"ApronDesk$Visits", "isThere", "(IIII)Z"⟩, 8) := ⟨⟨by decide +kernel, by decide +kernel⟩, List.mem_of_getElem? (i := 73) (by decide +kernel), List.mem_of_getElem? (i := 696) (by decide +kernel), List.mem_of_getElem? (i := 697) (by decide +kernel)⟩
theorem lw_p69 : lw_okq (⟨"ApronDesk$Judge", "regardPlane", "(I)V"⟩, 8) := ⟨⟨by decide +kernel, by decide +kernel⟩, List.mem_of_getElem? (i := 114) (by decide +kernel), List.mem_of_getElem? (i := 706) (by decide +kernel), List.mem_of_getElem? (i := 707) (by decide +kernel)⟩
theorem lw_p70 : lw_okq (⟨"ApronDeskModel", "refuse", "(I)I"⟩, 35) := ⟨⟨by decide +kernel, by decide +kernel⟩, List.mem_of_getElem? (i := 710) (by decide +kernel), List.mem_of_getElem? (i := 834) (by decide +kernel), List.mem_of_getElem? (i := 835) (by decide +kernel)⟩
theorem lw_p71 : lw_okq (⟨"ApronDeskModel", "gives", "(I)I"⟩, 35) := ⟨⟨by decide +kernel, by decide +kernel⟩, List.mem_of_getElem? (i := 710) (by decide +kernel), List.mem_of_getElem? (i := 838) (by decide +kernel), List.mem_of_getElem? (i := 839) (by decide +kernel)⟩
theorem lw_p72 : lw_okq (⟨"ApronDeskModel", "isStand", "(I)Z"⟩, 35) := ⟨⟨by decide +kernel, by decide +kernel⟩, List.mem_of_getElem? (i := 710) (by decide +kernel), List.mem_of_getElem? (i := 846) (by decide +kernel), List.mem_of_getElem? (i := 847) (by decide +kernel)⟩
theorem lw_p73 : lw_okq (⟨"ApronDeskModel", "isVisit", "(I)Z"⟩, 35) := ⟨⟨by decide +kernel, by decide +kernel⟩, List.mem_of_getElem? (i := 710) (by decide +kernel), List.mem_of_getElem? (i := 873) (by decide +kernel), List.mem_of_getElem? (i := 874) (by decide +kernel)⟩
theorem lw_p74 : lw_okq (⟨"ApronDeskModel", "isPut", "(I)Z"⟩, 35) := ⟨⟨by decide +kernel, by decide +kernel⟩, List.mem_of_getElem? (i := 710) (by decide +kernel), List.mem_of_getElem? (i := 877) (by decide +kernel), List.mem_of_getElem? (i := 878) (by decide +kernel)⟩
theorem lw_p75 : lw_okq (⟨"ApronDeskModel", "isUnknown", "(I)Z"⟩, 35) := ⟨⟨by decide +kernel, by decide +kernel⟩, List.mem_of_getElem? (i := 710) (by decide +kernel), List.mem_of_getElem? (i := 889) (by decide +kernel), List.mem_of_getElem? (i := 890) (by decide +kernel)⟩
theorem lw_p76 : lw_okq (⟨"ApronDeskModel", "hasBegun", "(I)Z"⟩, 35) := ⟨⟨by decide +kernel, by decide +kernel⟩, List.mem_of_getElem? (i := 710) (by decide +kernel), List.mem_of_getElem? (i := 893) (by decide +kernel), List.mem_of_getElem? (i := 894) (by decide +kernel)⟩
theorem lw_p77 : lw_okq (⟨"ApronDeskModel", "inOf", "(I)I"⟩, 35) := ⟨⟨by decide +kernel, by decide +kernel⟩, List.mem_of_getElem? (i := 710) (by decide +kernel), List.mem_of_getElem? (i := 897) (by decide +kernel), List.mem_of_getElem? (i := 898) (by decide +kernel)⟩
theorem lw_p78 : lw_okq (⟨"ApronDeskModel", "outOf", "(I)I"⟩, 35) := ⟨⟨by decide +kernel, by decide +kernel⟩, List.mem_of_getElem? (i := 710) (by decide +kernel), List.mem_of_getElem? (i := 901) (by decide +kernel), List.mem_of_getElem? (i := 902) (by decide +kernel)⟩
theorem lw_p79 : lw_okq (⟨"ApronDeskModel", "againstOf", "(IIII)I"⟩, 35) := ⟨⟨by decide +kernel, by decide +kernel⟩, List.mem_of_getElem? (i := 710) (by decide +kernel), List.mem_of_getElem? (i := 905) (by decide +kernel), List.mem_of_getElem? (i := 906) (by decide +kernel)⟩
def lw_privs_5 : List (MethodName × Nat) := [(⟨"ApronDesk$Line", "memberAt", "(I)I"⟩, 2), (⟨"ApronDesk$Visits", "isWaiting", "(I)Z"⟩, 8), (⟨"ApronDesk", "faultOfSwapping", "(II)I"⟩, 10), (⟨"ApronDesk$Visits", "moveFirstStay", "(II)V"⟩, 8), (⟨"ApronDesk$Visits", "isThere", "(IIII)Z"⟩, 8), (⟨"ApronDesk$Judge", "regardPlane", "(I)V"⟩, 8), (⟨"ApronDeskModel", "refuse", "(I)I"⟩, 35), (⟨"ApronDeskModel", "gives", "(I)I"⟩, 35), (⟨"ApronDeskModel", "isStand", "(I)Z"⟩, 35), (⟨"ApronDeskModel", "isVisit", "(I)Z"⟩, 35), (⟨"ApronDeskModel", "isPut", "(I)Z"⟩, 35), (⟨"ApronDeskModel", "isUnknown", "(I)Z"⟩, 35), (⟨"ApronDeskModel", "hasBegun", "(I)Z"⟩, 35), (⟨"ApronDeskModel", "inOf", "(I)I"⟩, 35), (⟨"ApronDeskModel", "outOf", "(I)I"⟩, 35), (⟨"ApronDeskModel", "againstOf", "(IIII)I"⟩, 35)]
theorem lw_r5 : ∀ q ∈ lw_privs_5, lw_okq q := List.forall_mem_cons.mpr ⟨lw_p64, List.forall_mem_cons.mpr ⟨lw_p65, List.forall_mem_cons.mpr ⟨lw_p66, List.forall_mem_cons.mpr ⟨lw_p67, List.forall_mem_cons.mpr ⟨lw_p68, List.forall_mem_cons.mpr ⟨lw_p69, List.forall_mem_cons.mpr ⟨lw_p70, List.forall_mem_cons.mpr ⟨lw_p71, List.forall_mem_cons.mpr ⟨lw_p72, List.forall_mem_cons.mpr ⟨lw_p73, List.forall_mem_cons.mpr ⟨lw_p74, List.forall_mem_cons.mpr ⟨lw_p75, List.forall_mem_cons.mpr ⟨lw_p76, List.forall_mem_cons.mpr ⟨lw_p77, List.forall_mem_cons.mpr ⟨lw_p78, List.forall_mem_cons.mpr ⟨lw_p79, fun _ h => absurd h List.not_mem_nil⟩⟩⟩⟩⟩⟩⟩⟩⟩⟩⟩⟩⟩⟩⟩⟩
theorem lw_p80 : lw_okq (⟨"ApronDeskModel", "kindOf", "(I)I"⟩, 35) := ⟨⟨by decide +kernel, by decide +kernel⟩, List.mem_of_getElem? (i := 710) (by decide +kernel), List.mem_of_getElem? (i := 909) (by decide +kernel), List.mem_of_getElem? (i := 910) (by decide +kernel)⟩
theorem lw_p81 : lw_okq (⟨"ApronDeskModel", "wingOf", "(I)I"⟩, 35) := ⟨⟨by decide +kernel, by decide +kernel⟩, List.mem_of_getElem? (i := 710) (by decide +kernel), List.mem_of_getElem? (i := 913) (by decide +kernel), List.mem_of_getElem? (i := 914) (by decide +kernel)⟩
theorem lw_p82 : lw_okq (⟨"ApronDeskModel", "needOf", "(I)I"⟩, 35) := ⟨⟨by decide +kernel, by decide +kernel⟩, List.mem_of_getElem? (i := 710) (by decide +kernel), List.mem_of_getElem? (i := 917) (by decide +kernel), List.mem_of_getElem? (i := 918) (by decide +kernel)⟩
theorem lw_p83 : lw_okq (⟨"ApronDeskModel", "against", "(IIIIIII)I"⟩, 35) := ⟨⟨by decide +kernel, by decide +kernel⟩, List.mem_of_getElem? (i := 710) (by decide +kernel), List.mem_of_getElem? (i := 921) (by decide +kernel), List.mem_of_getElem? (i := 922) (by decide +kernel)⟩
theorem lw_p84 : lw_okq (⟨"ApronDeskModel", "isNeighbour", "(IIIII)Z"⟩, 35) := ⟨⟨by decide +kernel, by decide +kernel⟩, List.mem_of_getElem? (i := 710) (by decide +kernel), List.mem_of_getElem? (i := 930) (by decide +kernel), List.mem_of_getElem? (i := 931) (by decide +kernel)⟩
theorem lw_p85 : lw_okq (⟨"ApronDeskModel", "takes", "(IIIIII)Z"⟩, 35) := ⟨⟨by decide +kernel, by decide +kernel⟩, List.mem_of_getElem? (i := 710) (by decide +kernel), List.mem_of_getElem? (i := 934) (by decide +kernel), List.mem_of_getElem? (i := 935) (by decide +kernel)⟩
theorem lw_p86 : lw_okq (⟨"ApronDeskModel", "isThird", "(IIIII)Z"⟩, 35) := ⟨⟨by decide +kernel, by decide +kernel⟩, List.mem_of_getElem? (i := 710) (by decide +kernel), List.mem_of_getElem? (i := 938) (by decide +kernel), List.mem_of_getElem? (i := 939) (by decide +kernel)⟩
theorem lw_p87 : lw_okq (⟨"ApronDeskModel", "isAgainst", "(I)Z"⟩, 35) := ⟨⟨by decide +kernel, by decide +kernel⟩, List.mem_of_getElem? (i := 710) (by decide +kernel), List.mem_of_getElem? (i := 942) (by decide +kernel), List.mem_of_getElem? (i := 943) (by decide +kernel)⟩
theorem lw_p88 : lw_okq (⟨"ApronDeskModel", "sets", "(IIII)V"⟩, 35) := ⟨⟨by decide +kernel, by decide +kernel⟩, List.mem_of_getElem? (i := 710) (by decide +kernel), List.mem_of_getElem? (i := 946) (by decide +kernel), List.mem_of_getElem? (i := 947) (by decide +kernel)⟩
theorem lw_p89 : lw_okq (⟨"ApronDeskModel", "isPlanned", "(I)Z"⟩, 35) := ⟨⟨by decide +kernel, by decide +kernel⟩, List.mem_of_getElem? (i := 710) (by decide +kernel), List.mem_of_getElem? (i := 970) (by decide +kernel), List.mem_of_getElem? (i := 971) (by decide +kernel)⟩
theorem lw_p90 : lw_okq (⟨"ApronDeskModel", "lines", "(I)V"⟩, 35) := ⟨⟨by decide +kernel, by decide +kernel⟩, List.mem_of_getElem? (i := 710) (by decide +kernel), List.mem_of_getElem? (i := 974) (by decide +kernel), List.mem_of_getElem? (i := 975) (by decide +kernel)⟩
theorem lw_p91 : lw_okq (⟨"ApronDeskModel", "bestOf", "(III)I"⟩, 35) := ⟨⟨by decide +kernel, by decide +kernel⟩, List.mem_of_getElem? (i := 710) (by decide +kernel), List.mem_of_getElem? (i := 978) (by decide +kernel), List.mem_of_getElem? (i := 979) (by decide +kernel)⟩
theorem lw_p92 : lw_okq (⟨"ApronDeskModel", "rank", "(II)I"⟩, 35) := ⟨⟨by decide +kernel, by decide +kernel⟩, List.mem_of_getElem? (i := 710) (by decide +kernel), List.mem_of_getElem? (i := 982) (by decide +kernel), List.mem_of_getElem? (i := 983) (by decide +kernel)⟩
theorem lw_p93 : lw_okq (⟨"ApronDeskModel", "found", "(Z)I"⟩, 35) := ⟨⟨by decide +kernel, by decide +kernel⟩, List.mem_of_getElem? (i := 710) (by decide +kernel), List.mem_of_getElem? (i := 990) (by decide +kernel), List.mem_of_getElem? (i := 991) (by decide +kernel)⟩
theorem lw_p94 : lw_okq (⟨"ApronDeskModel", "search", "(Z)Z"⟩, 35) := ⟨⟨by decide +kernel, by decide +kernel⟩, List.mem_of_getElem? (i := 710) (by decide +kernel), List.mem_of_getElem? (i := 994) (by decide +kernel), List.mem_of_getElem? (i := 995) (by decide +kernel)⟩
theorem lw_p95 : lw_okq (⟨"ApronDeskModel", "whole", "()V"⟩, 35) := ⟨⟨by decide +kernel, by decide +kernel⟩, List.mem_of_getElem? (i := 710) (by decide +kernel), List.mem_of_getElem? (i := 998) (by decide +kernel), List.mem_of_getElem? (i := 999) (by decide +kernel)⟩
def lw_privs_6 : List (MethodName × Nat) := [(⟨"ApronDeskModel", "kindOf", "(I)I"⟩, 35), (⟨"ApronDeskModel", "wingOf", "(I)I"⟩, 35), (⟨"ApronDeskModel", "needOf", "(I)I"⟩, 35), (⟨"ApronDeskModel", "against", "(IIIIIII)I"⟩, 35), (⟨"ApronDeskModel", "isNeighbour", "(IIIII)Z"⟩, 35), (⟨"ApronDeskModel", "takes", "(IIIIII)Z"⟩, 35), (⟨"ApronDeskModel", "isThird", "(IIIII)Z"⟩, 35), (⟨"ApronDeskModel", "isAgainst", "(I)Z"⟩, 35), (⟨"ApronDeskModel", "sets", "(IIII)V"⟩, 35), (⟨"ApronDeskModel", "isPlanned", "(I)Z"⟩, 35), (⟨"ApronDeskModel", "lines", "(I)V"⟩, 35), (⟨"ApronDeskModel", "bestOf", "(III)I"⟩, 35), (⟨"ApronDeskModel", "rank", "(II)I"⟩, 35), (⟨"ApronDeskModel", "found", "(Z)I"⟩, 35), (⟨"ApronDeskModel", "search", "(Z)Z"⟩, 35), (⟨"ApronDeskModel", "whole", "()V"⟩, 35)]
theorem lw_r6 : ∀ q ∈ lw_privs_6, lw_okq q := List.forall_mem_cons.mpr ⟨lw_p80, List.forall_mem_cons.mpr ⟨lw_p81, List.forall_mem_cons.mpr ⟨lw_p82, List.forall_mem_cons.mpr ⟨lw_p83, List.forall_mem_cons.mpr ⟨lw_p84, List.forall_mem_cons.mpr ⟨lw_p85, List.forall_mem_cons.mpr ⟨lw_p86, List.forall_mem_cons.mpr ⟨lw_p87, List.forall_mem_cons.mpr ⟨lw_p88, List.forall_mem_cons.mpr ⟨lw_p89, List.forall_mem_cons.mpr ⟨lw_p90, List.forall_mem_cons.mpr ⟨lw_p91, List.forall_mem_cons.mpr ⟨lw_p92, List.forall_mem_cons.mpr ⟨lw_p93, List.forall_mem_cons.mpr ⟨lw_p94, List.forall_mem_cons.mpr ⟨lw_p95, fun _ h => absurd h List.not_mem_nil⟩⟩⟩⟩⟩⟩⟩⟩⟩⟩⟩⟩⟩⟩⟩⟩
theorem lw_p96 : lw_okq (⟨"ApronDeskModel", "isWaiting", "(I)Z"⟩, 35) := ⟨⟨by decide +kernel, by decide +kernel⟩, List.mem_of_getElem? (i := 710) (by decide +kernel), List.mem_of_getElem? (i := 1018) (by decide +kernel), List.mem_of_getElem? (i := 1019) (by decide +kernel)⟩
def lw_privs_7 : List (MethodName × Nat) := [(⟨"ApronDeskModel", "isWaiting", "(I)Z"⟩, 35)]
theorem lw_r7 : ∀ q ∈ lw_privs_7, lw_okq q := List.forall_mem_cons.mpr ⟨lw_p96, fun _ h => absurd h List.not_mem_nil⟩
def lw_privs : List (MethodName × Nat) := lw_privs_1 ++ (lw_privs_2 ++ (lw_privs_3 ++ (lw_privs_4 ++ (lw_privs_5 ++ (lw_privs_6 ++ (lw_privs_7))))))
def lw_tbl : List Cond := k2_sels lw_privs ++ tables_1
theorem lw_privs_ok : ∀ q ∈ lw_privs, lw_okq q := by
  show ∀ q ∈ lw_privs_1 ++ (lw_privs_2 ++ (lw_privs_3 ++ (lw_privs_4 ++ (lw_privs_5 ++ (lw_privs_6 ++ (lw_privs_7)))))), lw_okq q
  exact List.forall_mem_append.mpr ⟨lw_r1, List.forall_mem_append.mpr ⟨lw_r2, List.forall_mem_append.mpr ⟨lw_r3, List.forall_mem_append.mpr ⟨lw_r4, List.forall_mem_append.mpr ⟨lw_r5, List.forall_mem_append.mpr ⟨lw_r6, lw_r7⟩⟩⟩⟩⟩⟩
end
section
def RX0 : String := "ApronDesk$Delay"
def TX0 : u_T := fun k => match k with
  | 0 => ("ApronDesk$Delay", "visits", "LApronDesk$Visits;", true)
  | 1 => ("ApronDesk$Delay", "judge", "LApronDesk$Judge;", true)
  | 2 => ("ApronDesk$Delay", "movers", "LApronDesk$Line;", true)
  | 3 => ("ApronDesk$Delay", "bent", "LApronDesk$Line;", true)
  | _ => ("ApronDesk$Delay", "formerStands", "[I", true)
def tyX0 : Nat → FieldType := fun k => match k with
  | 0 => .object "ApronDesk$Visits"
  | 1 => .object "ApronDesk$Judge"
  | 2 => .object "ApronDesk$Line"
  | 3 => .object "ApronDesk$Line"
  | _ => .array .int
abbrev wsX00 : List Cond := u_ws RX0 TX0 5
theorem nmX0 : ∀ a, a < 5 → ∀ b, b < 5 → a ≠ b → (TX0 a).2.1 ≠ (TX0 b).2.1 := by decide +kernel
theorem tyX0_ok : ∀ k, k < 5 → parseFieldDescriptor (TX0 k).2.2.1 = some (tyX0 k) := by decide +kernel
abbrev cX0_init : ByteArray := prog_2_method_1_code
def yX0_init : MethodName := ⟨RX0, "<init>", "(LApronDesk$Visits;LApronDesk$Judge;)V"⟩
abbrev cX0_makeRoom : ByteArray := prog_2_method_2_code
def yX0_makeRoom : MethodName := ⟨RX0, "makeRoom", "(II)I"⟩
abbrev cX0_canGo : ByteArray := prog_2_method_3_code
def yX0_canGo : MethodName := ⟨RX0, "canGo", "(I)Z"⟩
abbrev cX0_bend : ByteArray := prog_2_method_4_code
def yX0_bend : MethodName := ⟨RX0, "bend", "(II)I"⟩
abbrev cX0_takeMoversOff : ByteArray := prog_2_method_5_code
def yX0_takeMoversOff : MethodName := ⟨RX0, "takeMoversOff", "()V"⟩
def RX1 : String := "ApronDesk$Ground"
def TX1 : u_T := fun k => match k with
  | 0 => ("ApronDesk$Ground", "kinds", "[I", true)
  | 1 => ("ApronDesk$Ground", "sizes", "[I", true)
  | 2 => ("ApronDesk$Ground", "pairA", "[I", true)
  | 3 => ("ApronDesk$Ground", "pairB", "[I", true)
  | 4 => ("ApronDesk$Ground", "limitsA", "[I", true)
  | 5 => ("ApronDesk$Ground", "limitsB", "[I", true)
  | 6 => ("ApronDesk$Ground", "coneStands", "[I", true)
  | 7 => ("ApronDesk$Ground", "coneFroms", "[I", true)
  | 8 => ("ApronDesk$Ground", "coneEnds", "[I", true)
  | 9 => ("ApronDesk$Ground", "stands", "I", false)
  | 10 => ("ApronDesk$Ground", "pairs", "I", false)
  | _ => ("ApronDesk$Ground", "cones", "I", false)
def tyX1 : Nat → FieldType := fun k => match k with
  | 0 => .array .int
  | 1 => .array .int
  | 2 => .array .int
  | 3 => .array .int
  | 4 => .array .int
  | 5 => .array .int
  | 6 => .array .int
  | 7 => .array .int
  | 8 => .array .int
  | 9 => .int
  | 10 => .int
  | _ => .int
abbrev wsX10 : List Cond := u_ws RX1 TX1 12
theorem nmX1 : ∀ a, a < 12 → ∀ b, b < 12 → a ≠ b → (TX1 a).2.1 ≠ (TX1 b).2.1 := by decide +kernel
theorem tyX1_ok : ∀ k, k < 12 → parseFieldDescriptor (TX1 k).2.2.1 = some (tyX1 k) := by decide +kernel
abbrev cX1_init : ByteArray := prog_3_method_1_code
def yX1_init : MethodName := ⟨RX1, "<init>", "()V"⟩
abbrev cX1_hasStand : ByteArray := prog_3_method_2_code
def yX1_hasStand : MethodName := ⟨RX1, "hasStand", "(I)Z"⟩
abbrev cX1_addStand : ByteArray := prog_3_method_3_code
def yX1_addStand : MethodName := ⟨RX1, "addStand", "(II)I"⟩
abbrev cX1_addPair : ByteArray := prog_3_method_4_code
def yX1_addPair : MethodName := ⟨RX1, "addPair", "(IIII)I"⟩
abbrev cX1_addCone : ByteArray := prog_3_method_5_code
def yX1_addCone : MethodName := ⟨RX1, "addCone", "(III)I"⟩
abbrev cX1_hasGate : ByteArray := prog_3_method_6_code
def yX1_hasGate : MethodName := ⟨RX1, "hasGate", "(I)Z"⟩
abbrev cX1_halfOf : ByteArray := prog_3_method_7_code
def yX1_halfOf : MethodName := ⟨RX1, "halfOf", "(I)I"⟩
abbrev cX1_areTooNear : ByteArray := prog_3_method_8_code
def yX1_areTooNear : MethodName := ⟨RX1, "areTooNear", "(IIII)Z"⟩
abbrev cX1_firstCone : ByteArray := prog_3_method_9_code
def yX1_firstCone : MethodName := ⟨RX1, "firstCone", "(III)I"⟩
def RX2 : String := "ApronDesk$Judge"
def TX2 : u_T := fun k => match k with
  | 0 => ("ApronDesk$Judge", "apron", "LApronDesk$Ground;", true)
  | 1 => ("ApronDesk$Judge", "visits", "LApronDesk$Visits;", true)
  | 2 => ("ApronDesk$Judge", "away", "[Z", true)
  | 3 => ("ApronDesk$Judge", "self", "I", false)
  | 4 => ("ApronDesk$Judge", "kind", "I", false)
  | 5 => ("ApronDesk$Judge", "wing", "I", false)
  | 6 => ("ApronDesk$Judge", "need", "I", false)
  | _ => ("ApronDesk$Judge", "by", "I", false)
def tyX2 : Nat → FieldType := fun k => match k with
  | 0 => .object "ApronDesk$Ground"
  | 1 => .object "ApronDesk$Visits"
  | 2 => .array .boolean
  | 3 => .int
  | 4 => .int
  | 5 => .int
  | 6 => .int
  | _ => .int
abbrev wsX20 : List Cond := u_ws RX2 TX2 8
theorem nmX2 : ∀ a, a < 8 → ∀ b, b < 8 → a ≠ b → (TX2 a).2.1 ≠ (TX2 b).2.1 := by decide +kernel
theorem tyX2_ok : ∀ k, k < 8 → parseFieldDescriptor (TX2 k).2.2.1 = some (tyX2 k) := by decide +kernel
abbrev cX2_init : ByteArray := prog_4_method_1_code
def yX2_init : MethodName := ⟨RX2, "<init>", "(LApronDesk$Ground;LApronDesk$Visits;)V"⟩
abbrev cX2_sendAway : ByteArray := prog_4_method_2_code
def yX2_sendAway : MethodName := ⟨RX2, "sendAway", "(I)V"⟩
abbrev cX2_callAllBack : ByteArray := prog_4_method_3_code
def yX2_callAllBack : MethodName := ⟨RX2, "callAllBack", "()V"⟩
abbrev cX2_regard : ByteArray := prog_4_method_4_code
def yX2_regard : MethodName := ⟨RX2, "regard", "(I)V"⟩
abbrev cX2_regardPlane : ByteArray := prog_4_method_5_code
def yX2_regardPlane : MethodName := ⟨RX2, "regardPlane", "(I)V"⟩
abbrev cX2_bestStand : ByteArray := prog_4_method_6_code
def yX2_bestStand : MethodName := ⟨RX2, "bestStand", "(II)I"⟩
abbrev cX2_against : ByteArray := prog_4_method_7_code
def yX2_against : MethodName := ⟨RX2, "against", "(III)I"⟩
abbrev cX2_isUnfit : ByteArray := prog_4_method_8_code
def yX2_isUnfit : MethodName := ⟨RX2, "isUnfit", "(III)Z"⟩
abbrev cX2_firstNeighbour : ByteArray := prog_4_method_9_code
def yX2_firstNeighbour : MethodName := ⟨RX2, "firstNeighbour", "(III)I"⟩
abbrev cX2_isNeighbour : ByteArray := prog_4_method_10_code
def yX2_isNeighbour : MethodName := ⟨RX2, "isNeighbour", "(IIII)Z"⟩
abbrev cX2_firstTaker : ByteArray := prog_4_method_11_code
def yX2_firstTaker : MethodName := ⟨RX2, "firstTaker", "(III)I"⟩
abbrev cX2_mayShare : ByteArray := prog_4_method_12_code
def yX2_mayShare : MethodName := ⟨RX2, "mayShare", "(II)Z"⟩
abbrev cX2_isThirdThere : ByteArray := prog_4_method_13_code
def yX2_isThirdThere : MethodName := ⟨RX2, "isThirdThere", "(IIII)Z"⟩
abbrev cX2_isOther : ByteArray := prog_4_method_14_code
def yX2_isOther : MethodName := ⟨RX2, "isOther", "(I)Z"⟩
def RX3 : String := "ApronDesk$Line"
def TX3 : u_T := fun k => match k with
  | 0 => ("ApronDesk$Line", "members", "[I", true)
  | _ => ("ApronDesk$Line", "length", "I", false)
def tyX3 : Nat → FieldType := fun k => match k with
  | 0 => .array .int
  | _ => .int
abbrev wsX30 : List Cond := u_ws RX3 TX3 2
theorem nmX3 : ∀ a, a < 2 → ∀ b, b < 2 → a ≠ b → (TX3 a).2.1 ≠ (TX3 b).2.1 := by decide +kernel
theorem tyX3_ok : ∀ k, k < 2 → parseFieldDescriptor (TX3 k).2.2.1 = some (tyX3 k) := by decide +kernel
abbrev cX3_init : ByteArray := prog_5_method_1_code
def yX3_init : MethodName := ⟨RX3, "<init>", "()V"⟩
abbrev cX3_empty : ByteArray := prog_5_method_2_code
def yX3_empty : MethodName := ⟨RX3, "empty", "()V"⟩
abbrev cX3_memberAt : ByteArray := prog_5_method_3_code
def yX3_memberAt : MethodName := ⟨RX3, "memberAt", "(I)I"⟩
abbrev cX3_join : ByteArray := prog_5_method_4_code
def yX3_join : MethodName := ⟨RX3, "join", "(I)V"⟩
abbrev cX3_joinByIn : ByteArray := prog_5_method_5_code
def yX3_joinByIn : MethodName := ⟨RX3, "joinByIn", "(ILApronDesk$Visits;)V"⟩
def RX4 : String := "ApronDesk$Searcher"
def TX4 : u_T := fun k => match k with
  | 0 => ("ApronDesk$Searcher", "apron", "LApronDesk$Ground;", true)
  | 1 => ("ApronDesk$Searcher", "visits", "LApronDesk$Visits;", true)
  | 2 => ("ApronDesk$Searcher", "judge", "LApronDesk$Judge;", true)
  | 3 => ("ApronDesk$Searcher", "line", "LApronDesk$Line;", true)
  | 4 => ("ApronDesk$Searcher", "choices", "[I", true)
  | 5 => ("ApronDesk$Searcher", "bestChoices", "[I", true)
  | 6 => ("ApronDesk$Searcher", "depth", "I", false)
  | 7 => ("ApronDesk$Searcher", "tries", "I", false)
  | _ => ("ApronDesk$Searcher", "bestScore", "I", false)
def tyX4 : Nat → FieldType := fun k => match k with
  | 0 => .object "ApronDesk$Ground"
  | 1 => .object "ApronDesk$Visits"
  | 2 => .object "ApronDesk$Judge"
  | 3 => .object "ApronDesk$Line"
  | 4 => .array .int
  | 5 => .array .int
  | 6 => .int
  | 7 => .int
  | _ => .int
abbrev wsX40 : List Cond := u_ws RX4 TX4 9
theorem nmX4 : ∀ a, a < 9 → ∀ b, b < 9 → a ≠ b → (TX4 a).2.1 ≠ (TX4 b).2.1 := by decide +kernel
theorem tyX4_ok : ∀ k, k < 9 → parseFieldDescriptor (TX4 k).2.2.1 = some (tyX4 k) := by decide +kernel
abbrev cX4_init : ByteArray := prog_6_method_1_code
def yX4_init : MethodName := ⟨RX4, "<init>", "(LApronDesk$Ground;LApronDesk$Visits;LApronDesk$Judge;)V"⟩
abbrev cX4_takeFirst : ByteArray := prog_6_method_2_code
def yX4_takeFirst : MethodName := ⟨RX4, "takeFirst", "()I"⟩
abbrev cX4_takeBest : ByteArray := prog_6_method_3_code
def yX4_takeBest : MethodName := ⟨RX4, "takeBest", "()I"⟩
abbrev cX4_begin : ByteArray := prog_6_method_4_code
def yX4_begin : MethodName := ⟨RX4, "begin", "()V"⟩
abbrev cX4_goToNextWhole : ByteArray := prog_6_method_5_code
def yX4_goToNextWhole : MethodName := ⟨RX4, "goToNextWhole", "()I"⟩
abbrev cX4_keepIfBetter : ByteArray := prog_6_method_6_code
def yX4_keepIfBetter : MethodName := ⟨RX4, "keepIfBetter", "()V"⟩
abbrev cX4_putBest : ByteArray := prog_6_method_7_code
def yX4_putBest : MethodName := ⟨RX4, "putBest", "()V"⟩
abbrev cX4_takeAllOff : ByteArray := prog_6_method_8_code
def yX4_takeAllOff : MethodName := ⟨RX4, "takeAllOff", "()V"⟩
def RX5 : String := "ApronDesk$Visits"
def TX5 : u_T := fun k => match k with
  | 0 => ("ApronDesk$Visits", "rows", "[I", true)
  | 1 => ("ApronDesk$Visits", "lengths", "[I", true)
  | 2 => ("ApronDesk$Visits", "stayCounts", "[I", true)
  | 3 => ("ApronDesk$Visits", "stayStands", "[I", true)
  | 4 => ("ApronDesk$Visits", "stayFroms", "[I", true)
  | 5 => ("ApronDesk$Visits", "stayEnds", "[I", true)
  | 6 => ("ApronDesk$Visits", "size", "I", false)
  | _ => ("ApronDesk$Visits", "now", "I", false)
def tyX5 : Nat → FieldType := fun k => match k with
  | 0 => .array .int
  | 1 => .array .int
  | 2 => .array .int
  | 3 => .array .int
  | 4 => .array .int
  | 5 => .array .int
  | 6 => .int
  | _ => .int
abbrev wsX50 : List Cond := u_ws RX5 TX5 8
theorem nmX5 : ∀ a, a < 8 → ∀ b, b < 8 → a ≠ b → (TX5 a).2.1 ≠ (TX5 b).2.1 := by decide +kernel
theorem tyX5_ok : ∀ k, k < 8 → parseFieldDescriptor (TX5 k).2.2.1 = some (tyX5 k) := by decide +kernel
abbrev cX5_init : ByteArray := prog_7_method_1_code
def yX5_init : MethodName := ⟨RX5, "<init>", "()V"⟩
abbrev cX5_has : ByteArray := prog_7_method_2_code
def yX5_has : MethodName := ⟨RX5, "has", "(I)Z"⟩
abbrev cX5_add : ByteArray := prog_7_method_3_code
def yX5_add : MethodName := ⟨RX5, "add", "(IIIII)I"⟩
abbrev cX5_kindOf : ByteArray := prog_7_method_4_code
def yX5_kindOf : MethodName := ⟨RX5, "kindOf", "(I)I"⟩
abbrev cX5_wingOf : ByteArray := prog_7_method_5_code
def yX5_wingOf : MethodName := ⟨RX5, "wingOf", "(I)I"⟩
abbrev cX5_inOf : ByteArray := prog_7_method_6_code
def yX5_inOf : MethodName := ⟨RX5, "inOf", "(I)I"⟩
abbrev cX5_outOf : ByteArray := prog_7_method_7_code
def yX5_outOf : MethodName := ⟨RX5, "outOf", "(I)I"⟩
abbrev cX5_needOf : ByteArray := prog_7_method_8_code
def yX5_needOf : MethodName := ⟨RX5, "needOf", "(I)I"⟩
abbrev cX5_isUnknown : ByteArray := prog_7_method_9_code
def yX5_isUnknown : MethodName := ⟨RX5, "isUnknown", "(I)Z"⟩
abbrev cX5_hasBegun : ByteArray := prog_7_method_10_code
def yX5_hasBegun : MethodName := ⟨RX5, "hasBegun", "(I)Z"⟩
abbrev cX5_isPut : ByteArray := prog_7_method_11_code
def yX5_isPut : MethodName := ⟨RX5, "isPut", "(I)Z"⟩
abbrev cX5_isToCome : ByteArray := prog_7_method_12_code
def yX5_isToCome : MethodName := ⟨RX5, "isToCome", "(I)Z"⟩
abbrev cX5_isWaiting : ByteArray := prog_7_method_13_code
def yX5_isWaiting : MethodName := ⟨RX5, "isWaiting", "(I)Z"⟩
abbrev cX5_standOf : ByteArray := prog_7_method_14_code
def yX5_standOf : MethodName := ⟨RX5, "standOf", "(II)I"⟩
abbrev cX5_fromOf : ByteArray := prog_7_method_15_code
def yX5_fromOf : MethodName := ⟨RX5, "fromOf", "(II)I"⟩
abbrev cX5_endOf : ByteArray := prog_7_method_16_code
def yX5_endOf : MethodName := ⟨RX5, "endOf", "(II)I"⟩
abbrev cX5_isStayAt : ByteArray := prog_7_method_17_code
def yX5_isStayAt : MethodName := ⟨RX5, "isStayAt", "(IIIII)Z"⟩
abbrev cX5_isThere : ByteArray := prog_7_method_18_code
def yX5_isThere : MethodName := ⟨RX5, "isThere", "(IIII)Z"⟩
abbrev cX5_place : ByteArray := prog_7_method_19_code
def yX5_place : MethodName := ⟨RX5, "place", "(III)Z"⟩
abbrev cX5_addStay : ByteArray := prog_7_method_20_code
def yX5_addStay : MethodName := ⟨RX5, "addStay", "(III)V"⟩
abbrev cX5_endLastStay : ByteArray := prog_7_method_21_code
def yX5_endLastStay : MethodName := ⟨RX5, "endLastStay", "(II)V"⟩
abbrev cX5_moveFirstStay : ByteArray := prog_7_method_22_code
def yX5_moveFirstStay : MethodName := ⟨RX5, "moveFirstStay", "(II)V"⟩
abbrev cX5_takeOff : ByteArray := prog_7_method_23_code
def yX5_takeOff : MethodName := ⟨RX5, "takeOff", "(I)V"⟩
abbrev cX5_makeLate : ByteArray := prog_7_method_24_code
def yX5_makeLate : MethodName := ⟨RX5, "makeLate", "(II)V"⟩
def RX6 : String := "ApronDesk"
def TX6 : u_T := fun k => match k with
  | 0 => ("ApronDesk", "apron", "LApronDesk$Ground;", true)
  | 1 => ("ApronDesk", "visits", "LApronDesk$Visits;", true)
  | 2 => ("ApronDesk", "judge", "LApronDesk$Judge;", true)
  | 3 => ("ApronDesk", "searcher", "LApronDesk$Searcher;", true)
  | 4 => ("ApronDesk", "delay", "LApronDesk$Delay;", true)
  | 5 => ("ApronDesk", "line", "LApronDesk$Line;", true)
  | 6 => ("ApronDesk", "towMinutes", "I", false)
  | 7 => ("ApronDesk", "lastStatus", "I", false)
  | 8 => ("ApronDesk", "lastReason", "I", false)
  | _ => ("ApronDesk", "lastAgainst", "I", false)
def tyX6 : Nat → FieldType := fun k => match k with
  | 0 => .object "ApronDesk$Ground"
  | 1 => .object "ApronDesk$Visits"
  | 2 => .object "ApronDesk$Judge"
  | 3 => .object "ApronDesk$Searcher"
  | 4 => .object "ApronDesk$Delay"
  | 5 => .object "ApronDesk$Line"
  | 6 => .int
  | 7 => .int
  | 8 => .int
  | _ => .int
abbrev wsX60 : List Cond := u_ws RX6 TX6 10
theorem nmX6 : ∀ a, a < 10 → ∀ b, b < 10 → a ≠ b → (TX6 a).2.1 ≠ (TX6 b).2.1 := by decide +kernel
theorem tyX6_ok : ∀ k, k < 10 → parseFieldDescriptor (TX6 k).2.2.1 = some (tyX6 k) := by decide +kernel
abbrev cX6_init : ByteArray := prog_1_method_1_code
def yX6_init : MethodName := ⟨RX6, "<init>", "()V"⟩
abbrev cX6_status : ByteArray := prog_1_method_2_code
def yX6_status : MethodName := ⟨RX6, "status", "()I"⟩
abbrev cX6_reason : ByteArray := prog_1_method_3_code
def yX6_reason : MethodName := ⟨RX6, "reason", "(I)I"⟩
abbrev cX6_stand : ByteArray := prog_1_method_4_code
def yX6_stand : MethodName := ⟨RX6, "stand", "(II)I"⟩
abbrev cX6_ground : ByteArray := prog_1_method_5_code
def yX6_ground : MethodName := ⟨RX6, "ground", "(II)I"⟩
abbrev cX6_near : ByteArray := prog_1_method_6_code
def yX6_near : MethodName := ⟨RX6, "near", "(IIII)I"⟩
abbrev cX6_cone : ByteArray := prog_1_method_7_code
def yX6_cone : MethodName := ⟨RX6, "cone", "(III)I"⟩
abbrev cX6_towtime : ByteArray := prog_1_method_8_code
def yX6_towtime : MethodName := ⟨RX6, "towtime", "(I)Z"⟩
abbrev cX6_visit : ByteArray := prog_1_method_9_code
def yX6_visit : MethodName := ⟨RX6, "visit", "(IIIII)I"⟩
abbrev cX6_tear : ByteArray := prog_1_method_10_code
def yX6_tear : MethodName := ⟨RX6, "tear", "(II)Z"⟩
abbrev cX6_told : ByteArray := prog_1_method_11_code
def yX6_told : MethodName := ⟨RX6, "told", "(II)I"⟩
abbrev cX6_put : ByteArray := prog_1_method_12_code
def yX6_put : MethodName := ⟨RX6, "put", "(II)Z"⟩
abbrev cX6_why : ByteArray := prog_1_method_13_code
def yX6_why : MethodName := ⟨RX6, "why", "(II)I"⟩
abbrev cX6_off : ByteArray := prog_1_method_14_code
def yX6_off : MethodName := ⟨RX6, "off", "(I)Z"⟩
abbrev cX6_tow : ByteArray := prog_1_method_15_code
def yX6_tow : MethodName := ⟨RX6, "tow", "(III)Z"⟩
abbrev cX6_plan : ByteArray := prog_1_method_16_code
def yX6_plan : MethodName := ⟨RX6, "plan", "()I"⟩
abbrev cX6_search : ByteArray := prog_1_method_17_code
def yX6_search : MethodName := ⟨RX6, "search", "()I"⟩
abbrev cX6_most : ByteArray := prog_1_method_18_code
def yX6_most : MethodName := ⟨RX6, "most", "()I"⟩
abbrev cX6_late : ByteArray := prog_1_method_19_code
def yX6_late : MethodName := ⟨RX6, "late", "(II)I"⟩
abbrev cX6_changed : ByteArray := prog_1_method_20_code
def yX6_changed : MethodName := ⟨RX6, "changed", "(I)I"⟩
abbrev cX6_now : ByteArray := prog_1_method_21_code
def yX6_now : MethodName := ⟨RX6, "now", "(I)I"⟩
abbrev cX6_waiting : ByteArray := prog_1_method_22_code
def yX6_waiting : MethodName := ⟨RX6, "waiting", "()I"⟩
abbrev cX6_swap : ByteArray := prog_1_method_23_code
def yX6_swap : MethodName := ⟨RX6, "swap", "(II)Z"⟩
abbrev cX6_stays : ByteArray := prog_1_method_24_code
def yX6_stays : MethodName := ⟨RX6, "stays", "(I)I"⟩
abbrev cX6_stay : ByteArray := prog_1_method_25_code
def yX6_stay : MethodName := ⟨RX6, "stay", "(III)I"⟩
abbrev cX6_at : ByteArray := prog_1_method_26_code
def yX6_at : MethodName := ⟨RX6, "at", "(III)I"⟩
abbrev cX6_crowd : ByteArray := prog_1_method_27_code
def yX6_crowd : MethodName := ⟨RX6, "crowd", "(III)I"⟩
abbrev cX6_faultOfLooking : ByteArray := prog_1_method_28_code
def yX6_faultOfLooking : MethodName := ⟨RX6, "faultOfLooking", "(II)I"⟩
abbrev cX6_faultOfPutting : ByteArray := prog_1_method_29_code
def yX6_faultOfPutting : MethodName := ⟨RX6, "faultOfPutting", "(II)I"⟩
abbrev cX6_faultOfTowing : ByteArray := prog_1_method_30_code
def yX6_faultOfTowing : MethodName := ⟨RX6, "faultOfTowing", "(III)I"⟩
abbrev cX6_faultOfSwapping : ByteArray := prog_1_method_31_code
def yX6_faultOfSwapping : MethodName := ⟨RX6, "faultOfSwapping", "(II)I"⟩
abbrev cX6_serveLine : ByteArray := prog_1_method_32_code
def yX6_serveLine : MethodName := ⟨RX6, "serveLine", "()I"⟩
abbrev cX6_isHindered : ByteArray := prog_1_method_33_code
def yX6_isHindered : MethodName := ⟨RX6, "isHindered", "(IIII)Z"⟩
abbrev cX6_keepReason : ByteArray := prog_1_method_34_code
def yX6_keepReason : MethodName := ⟨RX6, "keepReason", "(I)V"⟩
abbrev cX6_grant : ByteArray := prog_1_method_35_code
def yX6_grant : MethodName := ⟨RX6, "grant", "(I)I"⟩
abbrev cX6_allow : ByteArray := prog_1_method_36_code
def yX6_allow : MethodName := ⟨RX6, "allow", "()Z"⟩
abbrev cX6_refuse : ByteArray := prog_1_method_37_code
def yX6_refuse : MethodName := ⟨RX6, "refuse", "(I)I"⟩
abbrev cX6_deny : ByteArray := prog_1_method_38_code
def yX6_deny : MethodName := ⟨RX6, "deny", "(I)Z"⟩
abbrev cX6_isWithin : ByteArray := prog_1_method_39_code
def yX6_isWithin : MethodName := ⟨RX6, "isWithin", "(III)Z"⟩
abbrev cX6_isSpan : ByteArray := prog_1_method_40_code
def yX6_isSpan : MethodName := ⟨RX6, "isSpan", "(II)Z"⟩
abbrev cX6_haveCommonMinute : ByteArray := prog_1_method_41_code
def yX6_haveCommonMinute : MethodName := ⟨RX6, "haveCommonMinute", "(IIII)Z"⟩
def RX7 : String := "ApronDeskModel"
def TX7 : u_T := fun k => match k with
  | 0 => ("ApronDeskModel", "status", "I", false)
  | 1 => ("ApronDeskModel", "reason", "I", false)
  | 2 => ("ApronDeskModel", "by", "I", false)
  | 3 => ("ApronDeskModel", "standMany", "I", false)
  | 4 => ("ApronDeskModel", "pairMany", "I", false)
  | 5 => ("ApronDeskModel", "coneMany", "I", false)
  | 6 => ("ApronDeskModel", "visitMany", "I", false)
  | 7 => ("ApronDeskModel", "towtime", "I", false)
  | 8 => ("ApronDeskModel", "now", "I", false)
  | 9 => ("ApronDeskModel", "standKind", "[I", true)
  | 10 => ("ApronDeskModel", "standSize", "[I", true)
  | 11 => ("ApronDeskModel", "pairA", "[I", true)
  | 12 => ("ApronDeskModel", "pairB", "[I", true)
  | 13 => ("ApronDeskModel", "limitA", "[I", true)
  | 14 => ("ApronDeskModel", "limitB", "[I", true)
  | 15 => ("ApronDeskModel", "coneStand", "[I", true)
  | 16 => ("ApronDeskModel", "coneFrom", "[I", true)
  | 17 => ("ApronDeskModel", "coneTo", "[I", true)
  | 18 => ("ApronDeskModel", "numbers", "[I", true)
  | 19 => ("ApronDeskModel", "row", "[I", true)
  | 20 => ("ApronDeskModel", "stayMany", "[I", true)
  | 21 => ("ApronDeskModel", "stayStand", "[I", true)
  | 22 => ("ApronDeskModel", "stayFrom", "[I", true)
  | 23 => ("ApronDeskModel", "stayTo", "[I", true)
  | 24 => ("ApronDeskModel", "foundBy", "I", false)
  | 25 => ("ApronDeskModel", "list", "[I", true)
  | 26 => ("ApronDeskModel", "listMany", "I", false)
  | 27 => ("ApronDeskModel", "tried", "[I", true)
  | 28 => ("ApronDeskModel", "best", "[I", true)
  | 29 => ("ApronDeskModel", "tries", "I", false)
  | 30 => ("ApronDeskModel", "bestCount", "I", false)
  | 31 => ("ApronDeskModel", "wasMany", "[I", true)
  | 32 => ("ApronDeskModel", "firstStand", "[I", true)
  | 33 => ("ApronDeskModel", "changes", "[I", true)
  | _ => ("ApronDeskModel", "changeMany", "I", false)
def tyX7 : Nat → FieldType := fun k => match k with
  | 0 => .int
  | 1 => .int
  | 2 => .int
  | 3 => .int
  | 4 => .int
  | 5 => .int
  | 6 => .int
  | 7 => .int
  | 8 => .int
  | 9 => .array .int
  | 10 => .array .int
  | 11 => .array .int
  | 12 => .array .int
  | 13 => .array .int
  | 14 => .array .int
  | 15 => .array .int
  | 16 => .array .int
  | 17 => .array .int
  | 18 => .array .int
  | 19 => .array .int
  | 20 => .array .int
  | 21 => .array .int
  | 22 => .array .int
  | 23 => .array .int
  | 24 => .int
  | 25 => .array .int
  | 26 => .int
  | 27 => .array .int
  | 28 => .array .int
  | 29 => .int
  | 30 => .int
  | 31 => .array .int
  | 32 => .array .int
  | 33 => .array .int
  | _ => .int
abbrev wsX70 : List Cond := u_ws RX7 TX7 35
theorem nmX7 : ∀ a, a < 35 → ∀ b, b < 35 → a ≠ b → (TX7 a).2.1 ≠ (TX7 b).2.1 := by decide +kernel
theorem tyX7_ok : ∀ k, k < 35 → parseFieldDescriptor (TX7 k).2.2.1 = some (tyX7 k) := by decide +kernel
abbrev cX7_init : ByteArray := prog_9_method_1_code
def yX7_init : MethodName := ⟨RX7, "<init>", "()V"⟩
abbrev cX7_status : ByteArray := prog_9_method_2_code
def yX7_status : MethodName := ⟨RX7, "status", "()I"⟩
abbrev cX7_reason : ByteArray := prog_9_method_3_code
def yX7_reason : MethodName := ⟨RX7, "reason", "(I)I"⟩
abbrev cX7_refuse : ByteArray := prog_9_method_4_code
def yX7_refuse : MethodName := ⟨RX7, "refuse", "(I)I"⟩
abbrev cX7_gives : ByteArray := prog_9_method_5_code
def yX7_gives : MethodName := ⟨RX7, "gives", "(I)I"⟩
abbrev cX7_isStand : ByteArray := prog_9_method_6_code
def yX7_isStand : MethodName := ⟨RX7, "isStand", "(I)Z"⟩
abbrev cX7_isVisit : ByteArray := prog_9_method_7_code
def yX7_isVisit : MethodName := ⟨RX7, "isVisit", "(I)Z"⟩
abbrev cX7_stand : ByteArray := prog_9_method_8_code
def yX7_stand : MethodName := ⟨RX7, "stand", "(II)I"⟩
abbrev cX7_ground : ByteArray := prog_9_method_9_code
def yX7_ground : MethodName := ⟨RX7, "ground", "(II)I"⟩
abbrev cX7_near : ByteArray := prog_9_method_10_code
def yX7_near : MethodName := ⟨RX7, "near", "(IIII)I"⟩
abbrev cX7_isSpan : ByteArray := prog_9_method_11_code
def yX7_isSpan : MethodName := ⟨RX7, "isSpan", "(II)Z"⟩
abbrev cX7_cone : ByteArray := prog_9_method_12_code
def yX7_cone : MethodName := ⟨RX7, "cone", "(III)I"⟩
abbrev cX7_towtime : ByteArray := prog_9_method_13_code
def yX7_towtime : MethodName := ⟨RX7, "towtime", "(I)Z"⟩
abbrev cX7_visit : ByteArray := prog_9_method_14_code
def yX7_visit : MethodName := ⟨RX7, "visit", "(IIIII)I"⟩
abbrev cX7_tear : ByteArray := prog_9_method_15_code
def yX7_tear : MethodName := ⟨RX7, "tear", "(II)Z"⟩
abbrev cX7_told : ByteArray := prog_9_method_16_code
def yX7_told : MethodName := ⟨RX7, "told", "(II)I"⟩
abbrev cX7_kindOf : ByteArray := prog_9_method_17_code
def yX7_kindOf : MethodName := ⟨RX7, "kindOf", "(I)I"⟩
abbrev cX7_wingOf : ByteArray := prog_9_method_18_code
def yX7_wingOf : MethodName := ⟨RX7, "wingOf", "(I)I"⟩
abbrev cX7_inOf : ByteArray := prog_9_method_19_code
def yX7_inOf : MethodName := ⟨RX7, "inOf", "(I)I"⟩
abbrev cX7_outOf : ByteArray := prog_9_method_20_code
def yX7_outOf : MethodName := ⟨RX7, "outOf", "(I)I"⟩
abbrev cX7_needOf : ByteArray := prog_9_method_21_code
def yX7_needOf : MethodName := ⟨RX7, "needOf", "(I)I"⟩
abbrev cX7_isUnknown : ByteArray := prog_9_method_22_code
def yX7_isUnknown : MethodName := ⟨RX7, "isUnknown", "(I)Z"⟩
abbrev cX7_isPut : ByteArray := prog_9_method_23_code
def yX7_isPut : MethodName := ⟨RX7, "isPut", "(I)Z"⟩
abbrev cX7_hasBegun : ByteArray := prog_9_method_24_code
def yX7_hasBegun : MethodName := ⟨RX7, "hasBegun", "(I)Z"⟩
abbrev cX7_haveCommon : ByteArray := prog_9_method_25_code
def yX7_haveCommon : MethodName := ⟨RX7, "haveCommon", "(IIII)Z"⟩
abbrev cX7_against : ByteArray := prog_9_method_26_code
def yX7_against : MethodName := ⟨RX7, "against", "(IIIIIII)I"⟩
abbrev cX7_isNeighbour : ByteArray := prog_9_method_27_code
def yX7_isNeighbour : MethodName := ⟨RX7, "isNeighbour", "(IIIII)Z"⟩
abbrev cX7_takes : ByteArray := prog_9_method_28_code
def yX7_takes : MethodName := ⟨RX7, "takes", "(IIIIII)Z"⟩
abbrev cX7_isThird : ByteArray := prog_9_method_29_code
def yX7_isThird : MethodName := ⟨RX7, "isThird", "(IIIII)Z"⟩
abbrev cX7_againstOf : ByteArray := prog_9_method_30_code
def yX7_againstOf : MethodName := ⟨RX7, "againstOf", "(IIII)I"⟩
abbrev cX7_isAgainst : ByteArray := prog_9_method_31_code
def yX7_isAgainst : MethodName := ⟨RX7, "isAgainst", "(I)Z"⟩
abbrev cX7_rank : ByteArray := prog_9_method_32_code
def yX7_rank : MethodName := ⟨RX7, "rank", "(II)I"⟩
abbrev cX7_bestOf : ByteArray := prog_9_method_33_code
def yX7_bestOf : MethodName := ⟨RX7, "bestOf", "(III)I"⟩
abbrev cX7_sets : ByteArray := prog_9_method_34_code
def yX7_sets : MethodName := ⟨RX7, "sets", "(IIII)V"⟩
abbrev cX7_put : ByteArray := prog_9_method_35_code
def yX7_put : MethodName := ⟨RX7, "put", "(II)Z"⟩
abbrev cX7_why : ByteArray := prog_9_method_36_code
def yX7_why : MethodName := ⟨RX7, "why", "(II)I"⟩
abbrev cX7_off : ByteArray := prog_9_method_37_code
def yX7_off : MethodName := ⟨RX7, "off", "(I)Z"⟩
abbrev cX7_tow : ByteArray := prog_9_method_38_code
def yX7_tow : MethodName := ⟨RX7, "tow", "(III)Z"⟩
abbrev cX7_swap : ByteArray := prog_9_method_39_code
def yX7_swap : MethodName := ⟨RX7, "swap", "(II)Z"⟩
abbrev cX7_lines : ByteArray := prog_9_method_40_code
def yX7_lines : MethodName := ⟨RX7, "lines", "(I)V"⟩
abbrev cX7_isPlanned : ByteArray := prog_9_method_41_code
def yX7_isPlanned : MethodName := ⟨RX7, "isPlanned", "(I)Z"⟩
abbrev cX7_plan : ByteArray := prog_9_method_42_code
def yX7_plan : MethodName := ⟨RX7, "plan", "()I"⟩
abbrev cX7_search : ByteArray := prog_9_method_43_code
def yX7_search : MethodName := ⟨RX7, "search", "(Z)Z"⟩
abbrev cX7_whole : ByteArray := prog_9_method_44_code
def yX7_whole : MethodName := ⟨RX7, "whole", "()V"⟩
abbrev cX7_found : ByteArray := prog_9_method_45_code
def yX7_found : MethodName := ⟨RX7, "found", "(Z)I"⟩
abbrev cX7_search_ : ByteArray := prog_9_method_46_code
def yX7_search_ : MethodName := ⟨RX7, "search", "()I"⟩
abbrev cX7_most : ByteArray := prog_9_method_47_code
def yX7_most : MethodName := ⟨RX7, "most", "()I"⟩
abbrev cX7_late : ByteArray := prog_9_method_48_code
def yX7_late : MethodName := ⟨RX7, "late", "(II)I"⟩
abbrev cX7_changed : ByteArray := prog_9_method_49_code
def yX7_changed : MethodName := ⟨RX7, "changed", "(I)I"⟩
abbrev cX7_isWaiting : ByteArray := prog_9_method_50_code
def yX7_isWaiting : MethodName := ⟨RX7, "isWaiting", "(I)Z"⟩
abbrev cX7_now : ByteArray := prog_9_method_51_code
def yX7_now : MethodName := ⟨RX7, "now", "(I)I"⟩
abbrev cX7_waiting : ByteArray := prog_9_method_52_code
def yX7_waiting : MethodName := ⟨RX7, "waiting", "()I"⟩
abbrev cX7_stays : ByteArray := prog_9_method_53_code
def yX7_stays : MethodName := ⟨RX7, "stays", "(I)I"⟩
abbrev cX7_stay : ByteArray := prog_9_method_54_code
def yX7_stay : MethodName := ⟨RX7, "stay", "(III)I"⟩
abbrev cX7_at : ByteArray := prog_9_method_55_code
def yX7_at : MethodName := ⟨RX7, "at", "(III)I"⟩
abbrev cX7_crowd : ByteArray := prog_9_method_56_code
def yX7_crowd : MethodName := ⟨RX7, "crowd", "(III)I"⟩
def RL : String := "ApronDeskLaw"
abbrev cL_law : ByteArray := code
def yL_law : MethodName := ⟨RL, "law", "([I)Z"⟩
abbrev vwCl : List vw_C := [(RX0, TX0, 5), (RX1, TX1, 12), (RX2, TX2, 8), (RX3, TX3, 2), (RX4, TX4, 9), (RX5, TX5, 8), (RX6, TX6, 10), (RX7, TX7, 35)]
end
section
/-! THE JUDGEMENT: a world of fixed cells, by numbers; a store gives each cell's ints. -/
abbrev tSt : Type := Nat → Int32 → Int32
abbrev tSC : Type := (Bool × Nat) ⊕ (Nat × List (Option Nat))
abbrev tSh : Type := List tSC
/-- a method: its name, code, locals, answer, room, world -/
abbrev tMS : Type := MethodName × ByteArray × Nat × Option FieldType × Room × Nat
def cv (ad : Nat → Nat) (v : Value) : Value := match v with
  | .ref k => .ref (ad k)
  | v => v
def tfld (ad : Nat → Nat) (f : Int32 → Int32) (i : Nat) (o : Option Nat) : Value := match o with
  | some j => .ref (ad j)
  | none => .int (f (nI i))
def tent (ad : Nat → Nat) (cA cZ : ClassId) (f : Int32 → Int32) (q : tSC) : va_E := match q with
  | .inl (b, n) => .inl (bif b then cZ else cA, n, .inl (fun j => f (nI j)))
  | .inr (ci, fs) => .inr (ci, fs.mapIdx (tfld ad f))
def tpic (ad : Nat → Nat) (cA cZ : ClassId) (sh : tSh) (σ : tSt) : va_W := sh.mapIdx (fun k q => (ad k, tent ad cA cZ (σ k) q))
theorem tpic_at {ad : Nat → Nat} {cA cZ : ClassId} {sh : tSh} {σ : tSt} {k : Nat} {q : tSC} (h : sh[k]? = some q) : (tpic ad cA cZ sh σ)[k]? = some (ad k, tent ad cA cZ (σ k) q) := by
  simp [tpic, h]
theorem tpic_of {ad : Nat → Nat} {cA cZ : ClassId} {sh : tSh} {σ : tSt} {k : Nat} {x : Nat × va_E} (h : (tpic ad cA cZ sh σ)[k]? = some x) : ∃ q, sh[k]? = some q ∧ x = (ad k, tent ad cA cZ (σ k) q) := by
  simp only [tpic, List.getElem?_mapIdx] at h
  cases hq : sh[k]? with
  | none => rw [hq] at h; cases h
  | some q => rw [hq] at h; exact ⟨q, rfl, (Option.some.inj h).symm⟩
def tInj (ad : Nat → Nat) (n : Nat) : Prop := ∀ i j, i < n → j < n → ad i = ad j → i = j
def tAW (n : Nat) (ad : Nat → Nat) (sz : Nat) : Nat → Prop := fun q => (∃ k, k < n ∧ q = ad k) ∨ sz ≤ q
theorem tpic_D {ad : Nat → Nat} {cA cZ : ClassId} {sh : tSh} {σ : tSt} {sz : Nat} (h : tInj ad sh.length) : va_D (tAW sh.length ad sz) (tpic ad cA cZ sh σ) := by
  refine ⟨fun i j p q hi hj hpq => ?_, fun k q hk => ?_⟩
  · obtain ⟨a, ha, rfl⟩ := tpic_of hi
    obtain ⟨b, hb, rfl⟩ := tpic_of hj
    exact h i j (List.getElem?_eq_some_iff.mp ha).1 (List.getElem?_eq_some_iff.mp hb).1 hpq
  · obtain ⟨a, ha, rfl⟩ := tpic_of hk
    exact Or.inl ⟨k, (List.getElem?_eq_some_iff.mp ha).1, rfl⟩
/-- a store with one int changed -/
def up (σ : tSt) (k : Nat) (i x : Int32) : tSt := fun k' => if k' = k then (fun i' => if i' = i then x else σ k i') else σ k'
theorem up_s {σ : tSt} {k : Nat} {i x : Int32} : up σ k i x k i = x := by simp [up]
theorem up_k {σ : tSt} {k k' : Nat} {i x : Int32} (h : k' ≠ k) : up σ k i x k' = σ k' := by simp [up, h]
theorem up_n {σ : tSt} {k k' : Nat} {i i' x : Int32} (h : i' ≠ i) : up σ k i x k' i' = σ k' i' := by
  simp only [up]
  by_cases hk : k' = k
  · subst hk; simp [h]
  · simp [hk]
theorem up_at (σ : tSt) (k : Nat) (i x i' : Int32) : up σ k i x k i' = if i' = i then x else σ k i' := by simp [up]
theorem vcell_congr {c : ClassId} {n : Nat} {f g : Nat → Int32} (h : ∀ j, j < n → f j = g j) : vp_cell c (n, .inl f) = vp_cell c (n, .inl g) := by
  rw [vp_cell_i, vp_cell_i]
  unfold arrV
  congr 1
  apply congrArg
  funext j
  exact congrArg Value.int (h j.val j.isLt)
theorem nI_inj {a b : Nat} (ha : a < 2 ^ 31) (hb : b < 2 ^ 31) (h : nI a = nI b) : a = b := (nI_eq ha hb).mp h
theorem vp_in_eq {i : Int32} {n : Nat} (h : vp_in i n) (hn : n < 2 ^ 31) : i.toNatClampNeg < n ∧ nI i.toNatClampNeg = i := by
  obtain ⟨j, hj, rfl⟩ := vp_in_of h hn
  rw [nI_clamp (by omega)]
  exact ⟨hj, rfl⟩
theorem tput_arr {D : va_G} {cl : List vw_C} {ad : Nat → Nat} {cA cZ : ClassId} {sh : tSh} {σ : tSt} {k : Nat} {b : Bool} {n : Nat} {i x : Int32} {H : Heap} (hs : sh[k]? = some (.inl (b, n))) (hn : n < 2 ^ 31) (hi : vp_in i n)
    (h : va_P D cl ((tpic ad cA cZ sh σ).set k (ad k, .inl (bif b then cZ else cA, n, .inl (upd (fun j => σ k (nI j)) i.toNatClampNeg x)))) H) : va_P D cl (tpic ad cA cZ sh (up σ k i x)) H := by
  obtain ⟨hlt, he⟩ := vp_in_eq hi hn
  have hk : k < (tpic ad cA cZ sh σ).length := (List.getElem?_eq_some_iff.mp (tpic_at hs)).1
  intro k' q hq
  obtain ⟨q', hq', rfl⟩ := tpic_of hq
  by_cases hkk : k' = k
  · subst hkk
    obtain rfl : q' = .inl (b, n) := Option.some.inj (hq'.symm.trans hs)
    have h1 := h k' _ (List.getElem?_set_self hk)
    show H[ad k']? = some (vp_cell _ _)
    refine Eq.trans h1 (congrArg some (vcell_congr fun j hj => ?_))
    simp only [upd, up]
    by_cases hji : j = i.toNatClampNeg
    · subst hji; simp [he]
    · have : nI j ≠ i := fun q => hji (nI_inj (by omega) (by omega) (q.trans he.symm))
      simp [hji, this]
  · have h1 := h k' (ad k', tent ad cA cZ (σ k') q') (by rw [List.getElem?_set_ne (Ne.symm hkk)]; exact tpic_at hq')
    rw [up_k hkk]
    exact h1
theorem tput_fld {D : va_G} {cl : List vw_C} {ad : Nat → Nat} {cA cZ : ClassId} {sh : tSh} {σ : tSt} {k i : Nat} {ci : Nat} {fs : List (Option Nat)} {x : Int32} {H : Heap} (hs : sh[k]? = some (.inr (ci, fs))) (hi : fs[i]? = some none) (hn : fs.length < 2 ^ 31)
    (h : va_P D cl ((tpic ad cA cZ sh σ).set k (ad k, .inr (ci, (fs.mapIdx (tfld ad (σ k))).set i (.int x)))) H) : va_P D cl (tpic ad cA cZ sh (up σ k (nI i) x)) H := by
  have hk : k < (tpic ad cA cZ sh σ).length := (List.getElem?_eq_some_iff.mp (tpic_at hs)).1
  have hil : i < fs.length := (List.getElem?_eq_some_iff.mp hi).1
  intro k' q hq
  obtain ⟨q', hq', rfl⟩ := tpic_of hq
  by_cases hkk : k' = k
  · subst hkk
    obtain rfl : q' = .inr (ci, fs) := Option.some.inj (hq'.symm.trans hs)
    have h1 := h k' _ (List.getElem?_set_self hk)
    have e : (fs.mapIdx (tfld ad (σ k'))).set i (.int x) = fs.mapIdx (tfld ad (up σ k' (nI i) x k')) := by
      apply List.ext_getElem?
      intro j
      by_cases hj : j = i
      · subst hj
        rw [List.getElem?_set_self (by simpa using hil), List.getElem?_mapIdx, hi]
        simp [tfld, up_s]
      · rw [List.getElem?_set_ne (Ne.symm hj), List.getElem?_mapIdx, List.getElem?_mapIdx]
        cases hf : fs[j]? with
        | none => rfl
        | some o =>
          have hjl : j < fs.length := (List.getElem?_eq_some_iff.mp hf).1
          cases o with
          | some _ => rfl
          | none => simp only [Option.map_some, tfld, up_n (show nI j ≠ nI i from fun q => hj (nI_inj (by omega) (by omega) q))]
    rw [e] at h1
    exact h1
  · have h1 := h k' (ad k', tent ad cA cZ (σ k') q') (by rw [List.getElem?_set_ne (Ne.symm hkk)]; exact tpic_at hq')
    rw [up_k hkk]
    exact h1
/-! the tables' words -/
def gw (w : Cond) : Bool := match w with
  | .fieldLinkNest .. => true
  | .methodLinkNest .. => true
  | .arrayClass _ => false
  | w => w.onTables && w.keeps
def tTB (U : State) : Prop := ∀ w ∈ lw_tbl, gw w = true → va_Nw w U
def tWD (w : Cond) : Prop := w ∈ lw_tbl ∧ gw w = true
theorem gw_on {w : Cond} (h : gw w = true) : w.onTables = true := by
  cases w <;> first | rfl | (simp only [gw, Bool.and_eq_true] at h; exact h.1) | (cases h)
theorem tTB.warm {s U : State} (hW : s.WarmedH U.vm) (h : tTB s) : tTB U := by
  intro w hw hg
  have h1 := h w hw hg
  cases w <;> first | exact va_Nw.warmF hW h1 | exact va_Nw.warmM hW h1 | exact word_at hW (Or.inl hg) h1 | cases hg
theorem tTB.same {s U : State} (hv : s.vm = U.vm) (h : tTB s) : tTB U := fun w hw hg => va_Nw.same (gw_on hg) hv (h w hw hg)
theorem tTB.use {s : State} {args : Array Value} (h : tTB s) {w : Cond} (hw : tWD w) : w.before args s = true := va_Nw.use (gw_on hw.2) (h w hw.1 hw.2)
/-! the two worlds -/
def shX : tSh := [
  .inr (6, [some 17, some 18, some 19, some 20, some 21, some 22, none, none, none, none]),
  .inl (false, 24), .inl (false, 24), .inl (false, 40), .inl (false, 40), .inl (false, 40), .inl (false, 40), .inl (false, 20), .inl (false, 20), .inl (false, 20),
  .inl (false, 200), .inl (false, 40), .inl (false, 40), .inl (false, 320), .inl (false, 320), .inl (false, 320), .inl (false, 40),
  .inr (1, [some 1, some 2, some 3, some 4, some 5, some 6, some 7, some 8, some 9, none, none, none]),
  .inr (5, [some 10, some 11, some 12, some 13, some 14, some 15, none, none]),
  .inr (2, [some 17, some 18, some 26, none, none, none, none, none]),
  .inr (4, [some 17, some 18, some 19, some 23, some 27, some 28, none, none, none]),
  .inr (0, [some 18, some 19, some 24, some 25, some 29]),
  .inr (3, [some 30, none]), .inr (3, [some 31, none]), .inr (3, [some 32, none]), .inr (3, [some 16, none]),
  .inl (true, 40), .inl (false, 40), .inl (false, 40), .inl (false, 40), .inl (false, 40), .inl (false, 40), .inl (false, 40)]
def shM : tSh := [
  .inr (7, [none, none, none, none, none, none, none, none, none, some 1, some 2, some 3, some 4, some 5, some 6, some 7, some 8, some 9, some 11, some 10, some 12, some 13, some 14, some 15, none, some 17, none, some 18, some 19, none, none, some 20, some 21, some 16, none]),
  .inl (false, 24), .inl (false, 24), .inl (false, 40), .inl (false, 40), .inl (false, 40), .inl (false, 40), .inl (false, 20), .inl (false, 20), .inl (false, 20),
  .inl (false, 200), .inl (false, 40), .inl (false, 40), .inl (false, 320), .inl (false, 320), .inl (false, 320), .inl (false, 40),
  .inl (false, 40), .inl (false, 40), .inl (false, 40), .inl (false, 40), .inl (false, 40)]
def shp (w : Nat) : tSh := match w with
  | 0 => shX
  | _ => shM
def frO (i : Int32) : Int32 := if i = nI 0 then nI 4 else if i = nI 1 then nI 1 else nI 5
def coO (i : Int32) : Int32 := if i = nI 0 then nI 2 else if i = nI 1 then nI 3 else if i = nI 2 then nI 1 else if i = nI 3 then nI 4 else nI 5
def tSF (w : Nat) (ad : Nat → Nat) (A : Nat → Prop) (s : State) : Prop := w = 0 →
  (va_Z "ApronDesk" "FREIGHT_ORDER" "[I" (.ref (ad 100)) A s s.heap ∧ va_T .int (ad 100) 3 (fun j => .int (frO (nI j))) A s s.heap) ∧
  (va_Z "ApronDesk" "COMMON_ORDER" "[I" (.ref (ad 101)) A s s.heap ∧ va_T .int (ad 101) 5 (fun j => .int (coO (nI j))) A s s.heap)
abbrev tTy (cA cZ : ClassId) : List (ClassId × FieldType) := [(cA, .int), (cZ, .boolean)]
def tCX (y : tMS) (D : va_G) (ad : Nat → Nat) (cA cZ : ClassId) (p : Program) (s : State) (m : MethodId) (meth : Method) (c : Code) : Prop :=
  p.tables.exec = Jvm.exec ∧ c.code = y.2.1 ∧ c.maxLocals = y.2.2.1 ∧ meth.sig.returnType = y.2.2.2.1 ∧ meth.locks = false ∧ s.vm.findClass y.1.cls = some m.cls ∧ tTB s ∧ va_K D vwCl (tTy cA cZ) s ∧ tInj ad (shp y.2.2.2.2.2).length ∧ tSF y.2.2.2.2.2 ad (tAW (shp y.2.2.2.2.2).length ad s.heap.size) s
def tQR (w : Nat) (D : va_G) (ad : Nat → Nat) (cA cZ : ClassId) (Q : Option Int32 → tSt → Prop) : Array Value → State → Outcome → State → Prop := fun _ st oc t =>
  (∃ (r : Option Int32) (σ : tSt), oc = .returned (r.map Value.int) ∧ Q r σ ∧ va_P D vwCl (tpic ad cA cZ (shp w) σ) t.heap) ∧ va_F (tAW (shp w).length ad st.heap.size) st t
def tLR (ad : Nat → Nat) (ls : Array Slot) (n : Nat) (L : List Value) : Prop := ls.size = n ∧ lv_wf ls ∧ ∀ (k : Nat) (v : Value), L[k]? = some v → v ≠ .null → ls[k]? = some (.val (cv ad v))
/-- THE JUDGEMENT: method y, at pc, with locals L and stack st (cells by their numbers; null: not set) over the store σ, comes to an end with Q -/
def TT (y : tMS) (pc : Nat) (L st : List Value) (σ : tSt) (Q : Option Int32 → tSt → Prop) : Prop :=
  ∀ (l : Launch) (D : va_G) (ad : Nat → Nat) (cA cZ : ClassId) (p : Program) (e : Env) (s : State) (m : MethodId) (args : Array Value) (below : List Frame) (meth : Method) (c : Code) (H : Heap) (locs : List Loc) (ls : Array Slot),
    tCX y D ad cA cZ p s m meth c → va_P D vwCl (tpic ad cA cZ (shp y.2.2.2.2.2) σ) H → va_S (tAW (shp y.2.2.2.2.2).length ad s.heap.size) s.heap H locs → tLR ad ls y.2.2.1 L →
    W p l e y.2.2.2.2.1 s m args below meth c H locs 0 0 (MQ below (tQR y.2.2.2.2.2 D ad cA cZ Q) args s 0 0 (tAW (shp y.2.2.2.2.2).length ad s.heap.size)) (F0 m pc ls (st.map (cv ad)))
def tPX (w : Nat) (D : va_G) (ad : Nat → Nat) (cA cZ : ClassId) (σ : tSt) (sz : Nat) (U : State) : Prop :=
  U.heap.size = sz ∧ tTB U ∧ va_K D vwCl (tTy cA cZ) U ∧ tInj ad (shp w).length ∧ va_P D vwCl (tpic ad cA cZ (shp w) σ) U.heap ∧ tSF w ad (tAW (shp w).length ad sz) U
/-- THE CONTRACT: method z, called with as over σ -/
def CT (z : tMS) (as : List Value) (σ : tSt) (Q : Option Int32 → tSt → Prop) : Prop :=
  ∀ (l : Launch) (D : va_G) (ad : Nat → Nat) (cA cZ : ClassId) (sz : Nat), Met l z.1 [.code z.1 z.2.1 z.2.2.1 z.2.2.2.1] z.2.2.2.2.1 (va_Pc (as.map (cv ad)) (tPX z.2.2.2.2.2 D ad cA cZ σ sz)) (tQR z.2.2.2.2.2 D ad cA cZ Q) 0 0 (tAW (shp z.2.2.2.2.2).length ad sz)
theorem cv_cat (ad : Nat → Nat) (v : Value) : (cv ad v).category = v.category := by cases v <;> rfl
theorem tLR_entry (ad : Nat → Nat) (as : List Value) (n j : Nat) (hc : ∀ v ∈ as, v.category = 1) (hn : as.length + j = n) :
    tLR ad ((lg_sl (as.map (cv ad)) ++ List.replicate (n - (lg_sl (as.map (cv ad))).length) Slot.unset).toArray) n (as ++ List.replicate j .null) := by
  have hsl : ∀ l : List Value, (∀ v ∈ l, v.category = 1) → lg_sl (l.map (cv ad)) = l.map (fun v => Slot.val (cv ad v)) := by
    intro l
    induction l with
    | nil => intro _; rfl
    | cons v t ih =>
      intro h
      have h1 := h v List.mem_cons_self
      simp only [List.map_cons, lg_sl, List.flatMap_cons, cv_cat, h1]
      have := ih (fun w hw => h w (List.mem_cons_of_mem _ hw))
      simp only [lg_sl] at this
      rw [this]
      rfl
  have hlen : (lg_sl (as.map (cv ad))).length ≤ n := by rw [hsl as hc]; simp; omega
  obtain ⟨h1, h2, -⟩ := lv_entry (as.map (cv ad)) hlen
  refine ⟨h1, h2, fun k v hk hv => ?_⟩
  rw [hsl as hc]
  by_cases hkl : k < as.length
  · rw [List.getElem?_append_left hkl] at hk
    simp [List.getElem?_append_left, hkl, hk]
    have := List.getElem?_eq_some_iff.mp hk
    obtain ⟨_, e⟩ := this
    rw [e]
  · rw [List.getElem?_append_right (by omega)] at hk
    have := List.mem_of_getElem? hk
    rw [List.mem_replicate] at this
    exact absurd this.2 hv
theorem CT.of {z : tMS} {as : List Value} {σ : tSt} {Q : Option Int32 → tSt → Prop} (j : Nat) (hy : plainName z.1.cls = true) (hc : ∀ v ∈ as, v.category = 1) (hn : as.length + j = z.2.2.1) (h : TT z 0 (as ++ List.replicate j .null) [] σ Q) : CT z as σ Q := by
  intro l D ad cA cZ sz
  refine Met.ofW (cc := z.2.1) (maxL := z.2.2.1) (ret := z.2.2.2.1) hy rfl ?_
  intro p e s m args below meth c s₁ B hml hv
  obtain ⟨rfl, hsz, hT, hK, hI, hP, hF⟩ := hv
  subst hsz
  rw [lg_entry_eq]
  exact h l D ad cA cZ p e s m _ below meth c s.heap [] _ ⟨B.exec, B.bytes, hml, B.returns, B.notSynchronized, findClass_of_methodNamed B.named, hT, hK, hI, hF⟩ hP va_S.rf (tLR_entry ad as z.2.2.1 j hc hn)
theorem CT.mono {z : tMS} {as : List Value} {σ : tSt} {Q Q' : Option Int32 → tSt → Prop} (h : CT z as σ Q) (hq : ∀ r σ', Q r σ' → Q' r σ') : CT z as σ Q' := by
  intro l D ad cA cZ sz p e h1 h2 h3 s m args below h4 h5 h6 h7
  obtain ⟨k, o, a1, a2, a3, ⟨⟨r, σ', b1, b2, b3⟩, b4⟩, a4⟩ := h l D ad cA cZ sz p e h1 h2 h3 s m args below h4 h5 h6 h7
  exact ⟨k, o, a1, a2, a3, ⟨⟨r, σ', b1, hq r σ' b2, b3⟩, b4⟩, a4⟩
end
section
/-! ROWS OF THE JUDGEMENT, one an instruction -/
def DC (y : tMS) (pc : Nat) (i : Instr) (n pc' : Nat) : Prop := decode y.2.1 pc = .ok (i, n) ∧ pc + n = pc'
def DJ (y : tMS) (pc : Nat) (f : Int → Instr) (tgt pc' : Nat) : Prop := ∃ off : Int, decode y.2.1 pc = .ok (f off, 3) ∧ (pc : Int) + off = (tgt : Int) ∧ pc + 3 = pc'
section TROWS
variable {y : tMS} {pc pc' tgt : Nat} {L st : List Value} {σ : tSt} {Q : Option Int32 → tSt → Prop}
theorem tr_iconst {n : Int} (d : DC y pc (.iconst n) 1 pc') (v : Int32) (hv : Int32.ofInt n = v) (k : TT y pc' L (.int v :: st) σ Q) : TT y pc L (st) σ Q := by
  intro l D ad cA cZ p e s m args below meth c H locs ls hC hP hS hL
  obtain ⟨hd, rfl⟩ := d
  exact lv_iconst hC.1 hC.2.1 hd hv (k l D ad cA cZ p e s m args below meth c H locs ls hC hP hS hL)
theorem tr_bipush {n : Int} (d : DC y pc (.bipush n) 2 pc') (v : Int32) (hv : (Int8.ofInt n).toInt32 = v) (k : TT y pc' L (.int v :: st) σ Q) : TT y pc L (st) σ Q := by
  intro l D ad cA cZ p e s m args below meth c H locs ls hC hP hS hL
  obtain ⟨hd, rfl⟩ := d
  exact lv_bipush hC.1 hC.2.1 hd hv (k l D ad cA cZ p e s m args below meth c H locs ls hC hP hS hL)
theorem tr_sipush {n : Int} (d : DC y pc (.sipush n) 3 pc') (v : Int32) (hv : (Int16.ofInt n).toInt32 = v) (k : TT y pc' L (.int v :: st) σ Q) : TT y pc L (st) σ Q := by
  intro l D ad cA cZ p e s m args below meth c H locs ls hC hP hS hL
  obtain ⟨hd, rfl⟩ := d
  exact lv_sipush hC.1 hC.2.1 hd hv (k l D ad cA cZ p e s m args below meth c H locs ls hC hP hS hL)
theorem tr_iload_n {i : Fin 4} {x : Int32} (d : DC y pc (.iload_n i) 1 pc') (hl : L[(i : Nat)]? = some (.int x)) (k : TT y pc' L (.int x :: st) σ Q) : TT y pc L (st) σ Q := by
  intro l D ad cA cZ p e s m args below meth c H locs ls hC hP hS hL
  obtain ⟨hd, rfl⟩ := d
  exact lv_iload_n hC.1 hC.2.1 hd rfl (hL.2.2 _ _ hl (fun h => by cases h)) (k l D ad cA cZ p e s m args below meth c H locs ls hC hP hS hL)
theorem tr_iload {i : Nat} {x : Int32} (d : DC y pc (.iload i) 2 pc') (hl : L[i]? = some (.int x)) (k : TT y pc' L (.int x :: st) σ Q) : TT y pc L (st) σ Q := by
  intro l D ad cA cZ p e s m args below meth c H locs ls hC hP hS hL
  obtain ⟨hd, rfl⟩ := d
  exact lv_iload hC.1 hC.2.1 hd (hL.2.2 _ _ hl (fun h => by cases h)) (k l D ad cA cZ p e s m args below meth c H locs ls hC hP hS hL)
theorem tr_aload_n {i : Fin 4} {x : Nat} (d : DC y pc (.aload_n i) 1 pc') (hl : L[(i : Nat)]? = some (.ref x)) (k : TT y pc' L (.ref x :: st) σ Q) : TT y pc L (st) σ Q := by
  intro l D ad cA cZ p e s m args below meth c H locs ls hC hP hS hL
  obtain ⟨hd, rfl⟩ := d
  exact lv_aload_n hC.1 hC.2.1 hd rfl (hL.2.2 _ _ hl (fun h => by cases h)) (k l D ad cA cZ p e s m args below meth c H locs ls hC hP hS hL)
theorem tr_aload {i : Nat} {x : Nat} (d : DC y pc (.aload i) 2 pc') (hl : L[i]? = some (.ref x)) (k : TT y pc' L (.ref x :: st) σ Q) : TT y pc L (st) σ Q := by
  intro l D ad cA cZ p e s m args below meth c H locs ls hC hP hS hL
  obtain ⟨hd, rfl⟩ := d
  exact lv_aload hC.1 hC.2.1 hd (hL.2.2 _ _ hl (fun h => by cases h)) (k l D ad cA cZ p e s m args below meth c H locs ls hC hP hS hL)
theorem tr_iadd {a b : Int32} (d : DC y pc .iadd 1 pc') (k : TT y pc' L (.int (a + b) :: st) σ Q) : TT y pc L (.int b :: .int a :: st) σ Q := by
  intro l D ad cA cZ p e s m args below meth c H locs ls hC hP hS hL
  obtain ⟨hd, rfl⟩ := d
  exact lv_iadd hC.1 hC.2.1 hd (k l D ad cA cZ p e s m args below meth c H locs ls hC hP hS hL)
theorem tr_isub {a b : Int32} (d : DC y pc .isub 1 pc') (k : TT y pc' L (.int (a - b) :: st) σ Q) : TT y pc L (.int b :: .int a :: st) σ Q := by
  intro l D ad cA cZ p e s m args below meth c H locs ls hC hP hS hL
  obtain ⟨hd, rfl⟩ := d
  exact lv_isub hC.1 hC.2.1 hd (k l D ad cA cZ p e s m args below meth c H locs ls hC hP hS hL)
theorem tr_imul {a b : Int32} (d : DC y pc .imul 1 pc') (k : TT y pc' L (.int (a * b) :: st) σ Q) : TT y pc L (.int b :: .int a :: st) σ Q := by
  intro l D ad cA cZ p e s m args below meth c H locs ls hC hP hS hL
  obtain ⟨hd, rfl⟩ := d
  exact lv_imul hC.1 hC.2.1 hd (k l D ad cA cZ p e s m args below meth c H locs ls hC hP hS hL)
theorem tr_iand {a b : Int32} (d : DC y pc .iand 1 pc') (k : TT y pc' L (.int (a &&& b) :: st) σ Q) : TT y pc L (.int b :: .int a :: st) σ Q := by
  intro l D ad cA cZ p e s m args below meth c H locs ls hC hP hS hL
  obtain ⟨hd, rfl⟩ := d
  exact lv_iand hC.1 hC.2.1 hd (k l D ad cA cZ p e s m args below meth c H locs ls hC hP hS hL)
theorem tr_idiv {a b : Int32} (d : DC y pc .idiv 1 pc') (hb : ¬ b = 0) (k : TT y pc' L (.int (a / b) :: st) σ Q) : TT y pc L (.int b :: .int a :: st) σ Q := by
  intro l D ad cA cZ p e s m args below meth c H locs ls hC hP hS hL
  obtain ⟨hd, rfl⟩ := d
  exact lv_idiv hC.1 hC.2.1 hd hb (k l D ad cA cZ p e s m args below meth c H locs ls hC hP hS hL)
theorem tr_dup {v : Value} (d : DC y pc .dup 1 pc') (hv : v.category = 1) (k : TT y pc' L (v :: v :: st) σ Q) : TT y pc L (v :: st) σ Q := by
  intro l D ad cA cZ p e s m args below meth c H locs ls hC hP hS hL
  obtain ⟨hd, rfl⟩ := d
  exact lv_dup hC.1 hC.2.1 hd ((cv_cat ad v).trans hv) (k l D ad cA cZ p e s m args below meth c H locs ls hC hP hS hL)
theorem tr_dup2 {v w : Value} (d : DC y pc .dup2 1 pc') (hv : v.category = 1) (hw : w.category = 1) (k : TT y pc' L (v :: w :: v :: w :: st) σ Q) : TT y pc L (v :: w :: st) σ Q := by
  intro l D ad cA cZ p e s m args below meth c H locs ls hC hP hS hL
  obtain ⟨hd, rfl⟩ := d
  exact lv_dup2_11 hC.1 hC.2.1 hd ((cv_cat ad v).trans hv) ((cv_cat ad w).trans hw) (k l D ad cA cZ p e s m args below meth c H locs ls hC hP hS hL)
theorem tr_pop {v : Value} (d : DC y pc .pop 1 pc') (hv : v.category = 1) (k : TT y pc' L (st) σ Q) : TT y pc L (v :: st) σ Q := by
  intro l D ad cA cZ p e s m args below meth c H locs ls hC hP hS hL
  obtain ⟨hd, rfl⟩ := d
  exact lv_pop hC.1 hC.2.1 hd ((cv_cat ad v).trans hv) (k l D ad cA cZ p e s m args below meth c H locs ls hC hP hS hL)
theorem tr_goto (d : DJ y pc .goto tgt pc') (k : TT y tgt L st σ Q) : TT y pc L st σ Q := by
  intro l D ad cA cZ p e s m args below meth c H locs ls hC hP hS hL
  obtain ⟨off, hd, ht, rfl⟩ := d
  exact lv_goto hC.1 hC.2.1 hd ht (k l D ad cA cZ p e s m args below meth c H locs ls hC hP hS hL)
theorem tr_icmp_eq {a b : Int32} (d : DJ y pc (.if_icmp .eq) tgt pc') (k : (a = b) → TT y tgt L st σ Q) (k2 : ¬ (a = b) → TT y pc' L st σ Q) : TT y pc L (.int b :: .int a :: st) σ Q := by
  intro l D ad cA cZ p e s m args below meth c H locs ls hC hP hS hL
  obtain ⟨off, hd, ht, rfl⟩ := d
  exact lv_icmp_eq hC.1 hC.2.1 hd ht (fun h => k h l D ad cA cZ p e s m args below meth c H locs ls hC hP hS hL) (fun h => k2 h l D ad cA cZ p e s m args below meth c H locs ls hC hP hS hL)
theorem tr_icmp_ne {a b : Int32} (d : DJ y pc (.if_icmp .ne) tgt pc') (k : (¬ a = b) → TT y tgt L st σ Q) (k2 : a = b → TT y pc' L st σ Q) : TT y pc L (.int b :: .int a :: st) σ Q := by
  intro l D ad cA cZ p e s m args below meth c H locs ls hC hP hS hL
  obtain ⟨off, hd, ht, rfl⟩ := d
  exact lv_icmp_ne hC.1 hC.2.1 hd ht (fun h => k h l D ad cA cZ p e s m args below meth c H locs ls hC hP hS hL) (fun h => k2 h l D ad cA cZ p e s m args below meth c H locs ls hC hP hS hL)
theorem tr_icmp_lt {a b : Int32} (d : DJ y pc (.if_icmp .lt) tgt pc') (k : (a < b) → TT y tgt L st σ Q) (k2 : ¬ (a < b) → TT y pc' L st σ Q) : TT y pc L (.int b :: .int a :: st) σ Q := by
  intro l D ad cA cZ p e s m args below meth c H locs ls hC hP hS hL
  obtain ⟨off, hd, ht, rfl⟩ := d
  exact lv_icmp_lt hC.1 hC.2.1 hd ht (fun h => k h l D ad cA cZ p e s m args below meth c H locs ls hC hP hS hL) (fun h => k2 h l D ad cA cZ p e s m args below meth c H locs ls hC hP hS hL)
theorem tr_icmp_ge {a b : Int32} (d : DJ y pc (.if_icmp .ge) tgt pc') (k : (b ≤ a) → TT y tgt L st σ Q) (k2 : ¬ (b ≤ a) → TT y pc' L st σ Q) : TT y pc L (.int b :: .int a :: st) σ Q := by
  intro l D ad cA cZ p e s m args below meth c H locs ls hC hP hS hL
  obtain ⟨off, hd, ht, rfl⟩ := d
  exact lv_icmp_ge hC.1 hC.2.1 hd ht (fun h => k h l D ad cA cZ p e s m args below meth c H locs ls hC hP hS hL) (fun h => k2 h l D ad cA cZ p e s m args below meth c H locs ls hC hP hS hL)
theorem tr_icmp_gt {a b : Int32} (d : DJ y pc (.if_icmp .gt) tgt pc') (k : (b < a) → TT y tgt L st σ Q) (k2 : ¬ (b < a) → TT y pc' L st σ Q) : TT y pc L (.int b :: .int a :: st) σ Q := by
  intro l D ad cA cZ p e s m args below meth c H locs ls hC hP hS hL
  obtain ⟨off, hd, ht, rfl⟩ := d
  exact lv_icmp_gt hC.1 hC.2.1 hd ht (fun h => k h l D ad cA cZ p e s m args below meth c H locs ls hC hP hS hL) (fun h => k2 h l D ad cA cZ p e s m args below meth c H locs ls hC hP hS hL)
theorem tr_icmp_le {a b : Int32} (d : DJ y pc (.if_icmp .le) tgt pc') (k : (a ≤ b) → TT y tgt L st σ Q) (k2 : ¬ (a ≤ b) → TT y pc' L st σ Q) : TT y pc L (.int b :: .int a :: st) σ Q := by
  intro l D ad cA cZ p e s m args below meth c H locs ls hC hP hS hL
  obtain ⟨off, hd, ht, rfl⟩ := d
  exact lv_icmp_le hC.1 hC.2.1 hd ht (fun h => k h l D ad cA cZ p e s m args below meth c H locs ls hC hP hS hL) (fun h => k2 h l D ad cA cZ p e s m args below meth c H locs ls hC hP hS hL)
theorem tr_if_eq {a : Int32} (d : DJ y pc (.ifCond .eq) tgt pc') (k : (a = 0) → TT y tgt L st σ Q) (k2 : ¬ (a = 0) → TT y pc' L st σ Q) : TT y pc L (.int a :: st) σ Q := by
  intro l D ad cA cZ p e s m args below meth c H locs ls hC hP hS hL
  obtain ⟨off, hd, ht, rfl⟩ := d
  exact lv_if_eq hC.1 hC.2.1 hd ht (fun h => k h l D ad cA cZ p e s m args below meth c H locs ls hC hP hS hL) (fun h => k2 h l D ad cA cZ p e s m args below meth c H locs ls hC hP hS hL)
theorem tr_if_ne {a : Int32} (d : DJ y pc (.ifCond .ne) tgt pc') (k : (¬ a = 0) → TT y tgt L st σ Q) (k2 : a = 0 → TT y pc' L st σ Q) : TT y pc L (.int a :: st) σ Q := by
  intro l D ad cA cZ p e s m args below meth c H locs ls hC hP hS hL
  obtain ⟨off, hd, ht, rfl⟩ := d
  exact lv_if_ne hC.1 hC.2.1 hd ht (fun h => k h l D ad cA cZ p e s m args below meth c H locs ls hC hP hS hL) (fun h => k2 h l D ad cA cZ p e s m args below meth c H locs ls hC hP hS hL)
theorem tr_if_lt {a : Int32} (d : DJ y pc (.ifCond .lt) tgt pc') (k : (a < 0) → TT y tgt L st σ Q) (k2 : ¬ (a < 0) → TT y pc' L st σ Q) : TT y pc L (.int a :: st) σ Q := by
  intro l D ad cA cZ p e s m args below meth c H locs ls hC hP hS hL
  obtain ⟨off, hd, ht, rfl⟩ := d
  exact lv_if_lt hC.1 hC.2.1 hd ht (fun h => k h l D ad cA cZ p e s m args below meth c H locs ls hC hP hS hL) (fun h => k2 h l D ad cA cZ p e s m args below meth c H locs ls hC hP hS hL)
theorem tr_if_ge {a : Int32} (d : DJ y pc (.ifCond .ge) tgt pc') (k : (0 ≤ a) → TT y tgt L st σ Q) (k2 : ¬ (0 ≤ a) → TT y pc' L st σ Q) : TT y pc L (.int a :: st) σ Q := by
  intro l D ad cA cZ p e s m args below meth c H locs ls hC hP hS hL
  obtain ⟨off, hd, ht, rfl⟩ := d
  exact lv_if_ge hC.1 hC.2.1 hd ht (fun h => k h l D ad cA cZ p e s m args below meth c H locs ls hC hP hS hL) (fun h => k2 h l D ad cA cZ p e s m args below meth c H locs ls hC hP hS hL)
theorem tr_if_gt {a : Int32} (d : DJ y pc (.ifCond .gt) tgt pc') (k : (0 < a) → TT y tgt L st σ Q) (k2 : ¬ (0 < a) → TT y pc' L st σ Q) : TT y pc L (.int a :: st) σ Q := by
  intro l D ad cA cZ p e s m args below meth c H locs ls hC hP hS hL
  obtain ⟨off, hd, ht, rfl⟩ := d
  exact lv_if_gt hC.1 hC.2.1 hd ht (fun h => k h l D ad cA cZ p e s m args below meth c H locs ls hC hP hS hL) (fun h => k2 h l D ad cA cZ p e s m args below meth c H locs ls hC hP hS hL)
theorem tr_if_le {a : Int32} (d : DJ y pc (.ifCond .le) tgt pc') (k : (a ≤ 0) → TT y tgt L st σ Q) (k2 : ¬ (a ≤ 0) → TT y pc' L st σ Q) : TT y pc L (.int a :: st) σ Q := by
  intro l D ad cA cZ p e s m args below meth c H locs ls hC hP hS hL
  obtain ⟨off, hd, ht, rfl⟩ := d
  exact lv_if_le hC.1 hC.2.1 hd ht (fun h => k h l D ad cA cZ p e s m args below meth c H locs ls hC hP hS hL) (fun h => k2 h l D ad cA cZ p e s m args below meth c H locs ls hC hP hS hL)
theorem tLR_set {ad : Nat → Nat} {ls' : Array Slot} {n i : Nat} {v : Value} (h' : lv_has ls' n ((i, cv ad v) :: ((L.zipIdx.filterMap (fun q => if q.1 = .null then none else some (q.2, cv ad q.1))).filter (fun q => !(q.1 == i) && !(q.1 + 1 == i && q.2.category == 2))))) (hc : ∀ w ∈ L, w.category = 1 ∨ w = .null) : tLR ad ls' n (L.set i v) := by
  refine ⟨h'.1, h'.2.1, fun k w hk hw => ?_⟩
  by_cases hki : k = i
  · subst hki
    have hlt : k < L.length := by
      have := (List.getElem?_eq_some_iff.mp hk).1
      simpa using this
    rw [List.getElem?_set_self hlt] at hk
    cases hk
    exact h'.2.2 (k, cv ad v) List.mem_cons_self
  · rw [List.getElem?_set_ne (Ne.symm hki)] at hk
    refine h'.2.2 (k, cv ad w) (List.mem_cons_of_mem _ (List.mem_filter.mpr ⟨List.mem_filterMap.mpr ⟨(w, k), ?_, by simp [hw]⟩, ?_⟩))
    · exact List.mem_zipIdx_iff_getElem?.mpr hk
    · have h1 : (cv ad w).category = 1 := by
        rw [cv_cat]
        rcases hc w (List.mem_of_getElem? hk) with h | h
        · exact h
        · exact absurd h hw
      simp [hki, h1]
theorem tLR_has {ad : Nat → Nat} {ls : Array Slot} {n : Nat} (h : tLR ad ls n L) : lv_has ls n (L.zipIdx.filterMap (fun q => if q.1 = .null then none else some (q.2, cv ad q.1))) := by
  refine ⟨h.1, h.2.1, fun q hq => ?_⟩
  obtain ⟨⟨w, k⟩, h1, h2⟩ := List.mem_filterMap.mp hq
  by_cases hw : w = .null
  · simp [hw] at h2
  · simp [hw] at h2
    subst h2
    exact h.2.2 k w (List.mem_zipIdx_iff_getElem?.mp h1) hw
/-- all locals are ints, cells or unset -/
def tC1 (L : List Value) : Bool := L.all (fun w => match w with
  | .int _ => true
  | .ref _ => true
  | .null => true
  | _ => false)
theorem tC1_all (h : tC1 L = true) : ∀ w ∈ L, w.category = 1 ∨ w = .null := by
  intro w hw
  have := List.all_eq_true.mp h w hw
  cases w <;> simp_all [Value.category]
theorem tr_istore_n {i : Fin 4} {x : Int32} (d : DC y pc (.istore_n i) 1 pc') (hi : (i : Nat) < y.2.2.1) (hc : tC1 L = true) (k : TT y pc' (L.set (i : Nat) (.int x)) st σ Q) : TT y pc L (.int x :: st) σ Q := by
  intro l D ad cA cZ p e s m args below meth c H locs ls hC hP hS hL
  obtain ⟨hd, rfl⟩ := d
  exact lv_istore_n hC.1 hC.2.1 hd rfl (tLR_has hL) hi rfl (fun ls' h' => k l D ad cA cZ p e s m args below meth c H locs ls' hC hP hS (tLR_set (v := .int x) h' (tC1_all hc)))
theorem tr_istore {i : Nat} {x : Int32} (d : DC y pc (.istore i) 2 pc') (hi : (i : Nat) < y.2.2.1) (hc : tC1 L = true) (k : TT y pc' (L.set (i : Nat) (.int x)) st σ Q) : TT y pc L (.int x :: st) σ Q := by
  intro l D ad cA cZ p e s m args below meth c H locs ls hC hP hS hL
  obtain ⟨hd, rfl⟩ := d
  exact lv_istore hC.1 hC.2.1 hd (tLR_has hL) hi rfl (fun ls' h' => k l D ad cA cZ p e s m args below meth c H locs ls' hC hP hS (tLR_set (v := .int x) h' (tC1_all hc)))
theorem tr_astore_n {i : Fin 4} {x : Nat} (d : DC y pc (.astore_n i) 1 pc') (hi : (i : Nat) < y.2.2.1) (hc : tC1 L = true) (k : TT y pc' (L.set (i : Nat) (.ref x)) st σ Q) : TT y pc L (.ref x :: st) σ Q := by
  intro l D ad cA cZ p e s m args below meth c H locs ls hC hP hS hL
  obtain ⟨hd, rfl⟩ := d
  exact lv_astore_n hC.1 hC.2.1 hd rfl (tLR_has hL) hi rfl (fun ls' h' => k l D ad cA cZ p e s m args below meth c H locs ls' hC hP hS (tLR_set (v := .ref x) h' (tC1_all hc)))
theorem tr_astore {i : Nat} {x : Nat} (d : DC y pc (.astore i) 2 pc') (hi : (i : Nat) < y.2.2.1) (hc : tC1 L = true) (k : TT y pc' (L.set (i : Nat) (.ref x)) st σ Q) : TT y pc L (.ref x :: st) σ Q := by
  intro l D ad cA cZ p e s m args below meth c H locs ls hC hP hS hL
  obtain ⟨hd, rfl⟩ := d
  exact lv_astore hC.1 hC.2.1 hd (tLR_has hL) hi rfl (fun ls' h' => k l D ad cA cZ p e s m args below meth c H locs ls' hC hP hS (tLR_set (v := .ref x) h' (tC1_all hc)))
theorem tr_iinc {i : Nat} {n : Int} {x : Int32} (d : DC y pc (.iinc i n) 3 pc') (v : Int32) (hv : x + Int32.ofInt n = v) (hl : L[i]? = some (.int x)) (hi : i < y.2.2.1) (hc : tC1 L = true) (k : TT y pc' (L.set i (.int v)) st σ Q) : TT y pc L st σ Q := by
  intro l D ad cA cZ p e s m args below meth c H locs ls hC hP hS hL
  obtain ⟨hd, rfl⟩ := d
  have hm : (i, Value.int x) ∈ L.zipIdx.filterMap (fun q => if q.1 = .null then none else some (q.2, cv ad q.1)) := List.mem_filterMap.mpr ⟨(.int x, i), List.mem_zipIdx_iff_getElem?.mpr hl, rfl⟩
  obtain ⟨kk, hkk⟩ := List.getElem?_of_mem hm
  exact lv_iinc hC.1 hC.2.1 hd (tLR_has hL) hkk hv hi rfl (fun ls' h' => k l D ad cA cZ p e s m args below meth c H locs ls' hC hP hS (tLR_set (v := .int v) h' (tC1_all hc)))
theorem tr_ret {v : Int32} {ty : FieldType} (d : DC y pc .ireturn 1 pc') (hr : y.2.2.2.1 = some ty) (hn : narrow ty (.int v) = .int v) (hq : Q (some v) σ) : TT y pc L [.int v] σ Q := by
  intro l D ad cA cZ p e s m args below meth c H locs ls hC hP hS hL
  exact W.zret hC.1 hC.2.1 (hC.2.2.2.1.trans hr) hn (fun t ht hW => ⟨⟨some v, σ, rfl, hq, by rw [ht]; exact hP⟩, hS.F ht⟩) hS.2.2 d.1 hC.2.2.2.2.1
theorem tr_vret (d : DC y pc .return_ 1 pc') (hr : y.2.2.2.1 = none) (hq : Q none σ) : TT y pc L [] σ Q := by
  intro l D ad cA cZ p e s m args below meth c H locs ls hC hP hS hL
  exact W.vret hC.1 hC.2.1 (hC.2.2.2.1.trans hr) (fun t ht hW => ⟨⟨none, σ, rfl, hq, by rw [ht]; exact hP⟩, hS.F ht⟩) hS.2.2 d.1 hC.2.2.2.2.1
end TROWS
end
section
/-! ROWS OVER THE WORLD: fields, arrays, statics, calls -/
theorem shp_ok (w : Nat) : (shp w).all (fun q => match q with
  | .inl a => decide (a.2 < 2 ^ 31)
  | .inr o => decide (o.2.length < 2 ^ 31)) = true := by
  unfold shp
  split <;> decide
theorem shp_n {w k : Nat} {b : Bool} {n : Nat} (h : (shp w)[k]? = some (.inl (b, n))) : n < 2 ^ 31 := by
  have := List.all_eq_true.mp (shp_ok w) _ (List.mem_of_getElem? h)
  simpa using this
theorem shp_f {w k : Nat} {ci : Nat} {fs : List (Option Nat)} (h : (shp w)[k]? = some (.inr (ci, fs))) : fs.length < 2 ^ 31 := by
  have := List.all_eq_true.mp (shp_ok w) _ (List.mem_of_getElem? h)
  simpa using this
def tCF (ci : Nat) (C : String) (T : u_T) (N : Nat) (ty : Nat → FieldType) : Prop := vwCl[ci]? = some (C, T, N) ∧ (∀ w ∈ u_ws C T N, tWD w) ∧ (∀ k, k < N → parseFieldDescriptor (T k).2.2.1 = some (ty k)) ∧ (∀ a, a < N → ∀ b, b < N → a ≠ b → (T a).2.1 ≠ (T b).2.1)
def tLF (own : String) (ix : Nat) (C n d : String) : Prop := tWD (.fieldLink own ix C n d) ∨ tWD (.fieldLinkNest own ix C n d "ApronDesk")
def tFK (own : String) (ix ci i : Nat) : Prop := ∃ (C : String) (T : u_T) (N : Nat) (ty : Nat → FieldType), tCF ci C T N ty ∧ i < N ∧ (T i).1 = C ∧ tLF own ix C (T i).2.1 (T i).2.2.1
def tFP (own : String) (ix ci i : Nat) : Prop := ∃ (C : String) (T : u_T) (N : Nat) (ty : Nat → FieldType), tCF ci C T N ty ∧ i < N ∧ (T i).1 = C ∧ tLF own ix C (T i).2.1 (T i).2.2.1 ∧ (T i).2.2.2 = false ∧ ty i = .int
def psh (r : Option Int32) (st : List Value) : List Value := match r with
  | some x => .int x :: st
  | none => st
section THEAP
variable {y : tMS} {pc pc' tgt : Nat} {L st : List Value} {σ : tSt} {Q : Option Int32 → tSt → Prop}
theorem tr_getf {k ci ix i : Nat} {fs : List (Option Nat)} {o : Option Nat} {v : Value} (d : DC y pc (.getfield ix) 3 pc') (hf : tFK y.1.cls ix ci i) (hs : (shp y.2.2.2.2.2)[k]? = some (.inr (ci, fs))) (ho : fs[i]? = some o) (hv : ∀ ad, cv ad v = tfld ad (σ k) i o) (kk : TT y pc' L (v :: st) σ Q) : TT y pc L (.ref k :: st) σ Q := by
  intro l D ad cA cZ p e s m args below meth c H locs ls hC hP hS hL
  obtain ⟨hd, rfl⟩ := d
  obtain ⟨C, T, N, ty, ⟨h1, h2, h3, h4⟩, hi, hT, hl⟩ := hf
  obtain ⟨hx, hb, hml, hr, hlk, hown, hTB, hK, hI, hF⟩ := hC
  have hk := kk l D ad cA cZ p e s m args below meth c H locs ls ⟨hx, hb, hml, hr, hlk, hown, hTB, hK, hI, hF⟩ hP hS hL
  have hvv : (fs.mapIdx (tfld ad (σ k)))[i]? = some (cv ad v) := by rw [List.getElem?_mapIdx, ho, hv]; rfl
  rcases hl with hl | hl
  · exact va_get hx hb (own := y.1.cls) (ref := C) (fun w hw => tTB.use hTB (h2 w hw)) (fun _ h => h) hown hK hP k (tpic_at hs) h1 i hi (tTB.use hTB hl) (fun x h => by rw [hT] at h; exact h) hvv hd hk
  · exact va_getN hx hb (own := y.1.cls) (ref := C) (fun w hw => tTB.use hTB (h2 w hw)) (fun _ h => h) hown hK hP k (tpic_at hs) h1 i hi (tTB.use hTB hl) (fun x h => by rw [hT] at h; exact h) hvv hd hk
theorem tr_getI {k ci ix i : Nat} {fs : List (Option Nat)} (d : DC y pc (.getfield ix) 3 pc') (hf : tFK y.1.cls ix ci i) (hs : (shp y.2.2.2.2.2)[k]? = some (.inr (ci, fs))) (ho : fs[i]? = some none) (kk : TT y pc' L (.int (σ k (nI i)) :: st) σ Q) : TT y pc L (.ref k :: st) σ Q := tr_getf d hf hs ho (fun _ => rfl) kk
theorem tr_getR {k ci ix i j : Nat} {fs : List (Option Nat)} (d : DC y pc (.getfield ix) 3 pc') (hf : tFK y.1.cls ix ci i) (hs : (shp y.2.2.2.2.2)[k]? = some (.inr (ci, fs))) (ho : fs[i]? = some (some j)) (kk : TT y pc' L (.ref j :: st) σ Q) : TT y pc L (.ref k :: st) σ Q := tr_getf d hf hs ho (fun _ => rfl) kk
theorem tr_put {k ci ix i : Nat} {fs : List (Option Nat)} {x : Int32} (d : DC y pc (.putfield ix) 3 pc') (hf : tFP y.1.cls ix ci i) (hs : (shp y.2.2.2.2.2)[k]? = some (.inr (ci, fs))) (ho : fs[i]? = some none) (kk : TT y pc' L st (up σ k (nI i) x) Q) : TT y pc L (.int x :: .ref k :: st) σ Q := by
  intro l D ad cA cZ p e s m args below meth c H locs ls hC hP hS hL
  obtain ⟨hd, rfl⟩ := d
  obtain ⟨C, T, N, ty, ⟨h1, h2, h3, h4⟩, hi, hT, hl, hfin, hty⟩ := hf
  obtain ⟨hx, hb, hml, hr, hlk, hown, hTB, hK, hI, hF⟩ := hC
  have hl2 : i < (fs.mapIdx (tfld ad (σ k))).length := by simpa using (List.getElem?_eq_some_iff.mp ho).1
  rcases hl with hl | hl
  · exact va_put hx hb (own := y.1.cls) (ref := C) (fun w hw => tTB.use hTB (h2 w hw)) (fun _ h => h) ty h3 h4 hown hK hP (tpic_D hI) hS k (tpic_at hs) h1 i hi (tTB.use hTB hl) (fun x h => by rw [hT] at h; exact h) hfin (by rw [h3 i hi, hty]) rfl rfl hl2 hd
      (fun H1 locs1 hP1 _ hS1 => kk l D ad cA cZ p e s m args below meth c H1 locs1 ls ⟨hx, hb, hml, hr, hlk, hown, hTB, hK, hI, hF⟩ (tput_fld hs ho (shp_f hs) hP1) hS1 hL)
  · exact va_putN hx hb (own := y.1.cls) (ref := C) (fun w hw => tTB.use hTB (h2 w hw)) (fun _ h => h) ty h3 h4 hown hK hP (tpic_D hI) hS k (tpic_at hs) h1 i hi (tTB.use hTB hl) (fun x h => by rw [hT] at h; exact h) hfin (by rw [h3 i hi, hty]) rfl rfl hl2 hd
      (fun H1 locs1 hP1 _ hS1 => kk l D ad cA cZ p e s m args below meth c H1 locs1 ls ⟨hx, hb, hml, hr, hlk, hown, hTB, hK, hI, hF⟩ (tput_fld hs ho (shp_f hs) hP1) hS1 hL)
theorem tr_iald {k n : Nat} {i : Int32} (d : DC y pc .iaload 1 pc') (hs : (shp y.2.2.2.2.2)[k]? = some (.inl (false, n))) (hi : vp_in i n) (kk : TT y pc' L (.int (σ k i) :: st) σ Q) : TT y pc L (.int i :: .ref k :: st) σ Q := by
  intro l D ad cA cZ p e s m args below meth c H locs ls hC hP hS hL
  obtain ⟨hd, rfl⟩ := d
  have hk := kk l D ad cA cZ p e s m args below meth c H locs ls hC hP hS hL
  have he := (vp_in_eq hi (shp_n hs)).2
  refine va_iald hC.1 hC.2.1 hC.2.2.2.2.2.2.2.1 hP k 0 (tpic_at hs) rfl hi hd ?_
  rw [he]
  exact hk
theorem tr_zald {k n : Nat} {i : Int32} (d : DC y pc .baload 1 pc') (hs : (shp y.2.2.2.2.2)[k]? = some (.inl (true, n))) (hi : vp_in i n) (kk : TT y pc' L (.int (σ k i) :: st) σ Q) : TT y pc L (.int i :: .ref k :: st) σ Q := by
  intro l D ad cA cZ p e s m args below meth c H locs ls hC hP hS hL
  obtain ⟨hd, rfl⟩ := d
  have hk := kk l D ad cA cZ p e s m args below meth c H locs ls hC hP hS hL
  have he := (vp_in_eq hi (shp_n hs)).2
  refine va_zald hC.1 hC.2.1 hC.2.2.2.2.2.2.2.1 hP k 1 (tpic_at hs) rfl hi hd ?_
  rw [he]
  exact hk
theorem tr_iast {k n : Nat} {i x : Int32} (d : DC y pc .iastore 1 pc') (hs : (shp y.2.2.2.2.2)[k]? = some (.inl (false, n))) (hi : vp_in i n) (kk : TT y pc' L st (up σ k i x) Q) : TT y pc L (.int x :: .int i :: .ref k :: st) σ Q := by
  intro l D ad cA cZ p e s m args below meth c H locs ls hC hP hS hL
  obtain ⟨hd, rfl⟩ := d
  exact va_iast hC.1 hC.2.1 hC.2.2.2.2.2.2.2.1 hP (tpic_D hC.2.2.2.2.2.2.2.2.1) hS k 0 (tpic_at hs) rfl hi hd (fun H1 locs1 hP1 _ hS1 => kk l D ad cA cZ p e s m args below meth c H1 locs1 ls hC (tput_arr hs (shp_n hs) hi hP1) hS1 hL)
theorem tr_zast {k n : Nat} {i x : Int32} (d : DC y pc .bastore 1 pc') (hs : (shp y.2.2.2.2.2)[k]? = some (.inl (true, n))) (hi : vp_in i n) (hx : vp_nar .boolean x = x) (kk : TT y pc' L st (up σ k i x) Q) : TT y pc L (.int x :: .int i :: .ref k :: st) σ Q := by
  intro l D ad cA cZ p e s m args below meth c H locs ls hC hP hS hL
  obtain ⟨hd, rfl⟩ := d
  refine va_zast hC.1 hC.2.1 hC.2.2.2.2.2.2.2.1 hP (tpic_D hC.2.2.2.2.2.2.2.2.1) hS k 1 (tpic_at hs) rfl hi hd (fun H1 locs1 hP1 _ hS1 => ?_)
  rw [hx] at hP1
  exact kk l D ad cA cZ p e s m args below meth c H1 locs1 ls hC (tput_arr hs (shp_n hs) hi hP1) hS1 hL
/-- the two static rows of the class: cells 100 and 101 -/
def tTab (k : Nat) (i : Int32) : Int32 := if k = 100 then frO i else coO i
def tTl (k : Nat) : Nat := if k = 100 then 3 else 5
theorem tr_tald {k : Nat} {i : Int32} (d : DC y pc .iaload 1 pc') (hw : y.2.2.2.2.2 = 0) (hk : k = 100 ∨ k = 101) (hi : vp_in i (tTl k)) (kk : TT y pc' L (.int (tTab k i) :: st) σ Q) : TT y pc L (.int i :: .ref k :: st) σ Q := by
  intro l D ad cA cZ p e s m args below meth c H locs ls hC hP hS hL
  obtain ⟨hd, rfl⟩ := d
  have hkk := kk l D ad cA cZ p e s m args below meth c H locs ls hC hP hS hL
  obtain ⟨⟨h1, h2⟩, h3, h4⟩ := hC.2.2.2.2.2.2.2.2.2 hw
  rcases hk with rfl | rfl
  · have he := (vp_in_eq hi (by decide)).2
    exact va_ti hC.1 hC.2.1 h2 hS hi (v := .int (frO i)) (by rw [he]) hd hkk
  · have he := (vp_in_eq hi (by decide)).2
    exact va_ti hC.1 hC.2.1 h4 hS hi (v := .int (coO i)) (by rw [he]) hd hkk
theorem tr_tlen {k : Nat} (d : DC y pc .arraylength 1 pc') (hw : y.2.2.2.2.2 = 0) (hk : k = 100 ∨ k = 101) (kk : TT y pc' L (.int (nI (tTl k)) :: st) σ Q) : TT y pc L (.ref k :: st) σ Q := by
  intro l D ad cA cZ p e s m args below meth c H locs ls hC hP hS hL
  obtain ⟨hd, rfl⟩ := d
  have hkk := kk l D ad cA cZ p e s m args below meth c H locs ls hC hP hS hL
  obtain ⟨⟨h1, h2⟩, h3, h4⟩ := hC.2.2.2.2.2.2.2.2.2 hw
  rcases hk with rfl | rfl
  · exact va_tlen hC.1 hC.2.1 h2 hS rfl hd hkk
  · exact va_tlen hC.1 hC.2.1 h4 hS rfl hd hkk
theorem tr_gets {k ix : Nat} {n : String} (d : DC y pc (.getstatic ix) 3 pc') (hw : y.2.2.2.2.2 = 0) (hk : (k = 100 ∧ n = "FREIGHT_ORDER") ∨ (k = 101 ∧ n = "COMMON_ORDER")) (hl : tLF y.1.cls ix "ApronDesk" n "[I") (kk : TT y pc' L (.ref k :: st) σ Q) : TT y pc L st σ Q := by
  intro l D ad cA cZ p e s m args below meth c H locs ls hC hP hS hL
  obtain ⟨hd, rfl⟩ := d
  have hkk := kk l D ad cA cZ p e s m args below meth c H locs ls hC hP hS hL
  obtain ⟨⟨h1, h2⟩, h3, h4⟩ := hC.2.2.2.2.2.2.2.2.2 hw
  have hTB := hC.2.2.2.2.2.2.1
  rcases hk with ⟨rfl, rfl⟩ | ⟨rfl, rfl⟩ <;> rcases hl with hl | hl
  · exact va_gets hC.1 hC.2.1 h1 hS hC.2.2.2.2.2.1 (tTB.use hTB hl) (fun _ h => h) hd hkk
  · exact va_getsN hC.1 hC.2.1 h1 hS hC.2.2.2.2.2.1 (tTB.use hTB hl) (fun _ h => h) hd hkk
  · exact va_gets hC.1 hC.2.1 h3 hS hC.2.2.2.2.2.1 (tTB.use hTB hl) (fun _ h => h) hd hkk
  · exact va_getsN hC.1 hC.2.1 h3 hS hC.2.2.2.2.2.1 (tTB.use hTB hl) (fun _ h => h) hd hkk
theorem tr_tabIn {dflt lo hi : Int} {offs : Array Int} {len : Nat} {x : Int32} {off : Int} (d : decode y.2.1 pc = .ok (.tableswitch dflt lo hi offs, len)) (h1 : ¬ x.toInt < lo) (h2 : ¬ hi < x.toInt) (ho : offs[(x.toInt - lo).toNat]? = some off) (ht : (pc : Int) + off = (tgt : Int)) (k : TT y tgt L st σ Q) : TT y pc L (.int x :: st) σ Q := by
  intro l D ad cA cZ p e s m args below meth c H locs ls hC hP hS hL
  exact lv_tableIn hC.1 hC.2.1 d h1 h2 ho ht (k l D ad cA cZ p e s m args below meth c H locs ls hC hP hS hL)
theorem tr_tabOut {dflt lo hi : Int} {offs : Array Int} {len : Nat} {x : Int32} (d : decode y.2.1 pc = .ok (.tableswitch dflt lo hi offs, len)) (h : x.toInt < lo ∨ hi < x.toInt) (ht : (pc : Int) + dflt = (tgt : Int)) (k : TT y tgt L st σ Q) : TT y pc L (.int x :: st) σ Q := by
  intro l D ad cA cZ p e s m args below meth c H locs ls hC hP hS hL
  exact lv_tableOut hC.1 hC.2.1 d h ht (k l D ad cA cZ p e s m args below meth c H locs ls hC hP hS hL)
theorem cv_sum (ad : Nat → Nat) (st : List Value) : ((st.map (cv ad)).map fun v => v.category).sum = (st.map fun v => v.category).sum := by
  rw [List.map_map]
  exact congrArg List.sum (List.map_congr_left fun v _ => cv_cat ad v)
theorem tr_max {a b : Int32} {ix : Nat} (d : DC y pc (.invokestatic ix) 3 pc') (hl : tWD (.methodLink y.1.cls ix Lib.Math.max.name)) (h1 : tWD (.static Lib.Math.max.name)) (h2 : tWD (.initialized "java/lang/Math")) (h3 : tWD (.code Lib.Math.max.name Lib.Math.max.code 2 (some .int))) (hR : 1 ≤ y.2.2.2.2.1.frames) (hR2 : (st.map fun v => v.category).sum + 13 ≤ y.2.2.2.2.1.locals) (kk : TT y pc' L (.int (if a < b then b else a) :: st) σ Q) : TT y pc L (.int b :: .int a :: st) σ Q := by
  intro l D ad cA cZ p e s m args below meth c H locs ls hC hP hS hL
  obtain ⟨hd, rfl⟩ := d
  have hTB := hC.2.2.2.2.2.2.1
  exact va_mmax hC.1 hC.2.1 (hC.2.2.1.trans hL.1.symm) hC.2.2.2.2.2.1 (tTB.use hTB hl) (tTB.use hTB h1) (tTB.use hTB h2) (tTB.use hTB h3) hR (by rw [cv_sum]; exact hR2) (Nat.zero_le _) (Nat.zero_le _) hd (kk l D ad cA cZ p e s m args below meth c H locs ls hC hP hS hL)
theorem tr_min {a b : Int32} {ix : Nat} (d : DC y pc (.invokestatic ix) 3 pc') (hl : tWD (.methodLink y.1.cls ix Lib.Math.min.name)) (h1 : tWD (.static Lib.Math.min.name)) (h2 : tWD (.initialized "java/lang/Math")) (h3 : tWD (.code Lib.Math.min.name Lib.Math.min.code 2 (some .int))) (hR : 1 ≤ y.2.2.2.2.1.frames) (hR2 : (st.map fun v => v.category).sum + 13 ≤ y.2.2.2.2.1.locals) (kk : TT y pc' L (.int (if b < a then b else a) :: st) σ Q) : TT y pc L (.int b :: .int a :: st) σ Q := by
  intro l D ad cA cZ p e s m args below meth c H locs ls hC hP hS hL
  obtain ⟨hd, rfl⟩ := d
  have hTB := hC.2.2.2.2.2.2.1
  exact va_mmin hC.1 hC.2.1 (hC.2.2.1.trans hL.1.symm) hC.2.2.2.2.2.1 (tTB.use hTB hl) (tTB.use hTB h1) (tTB.use hTB h2) (tTB.use hTB h3) hR (by rw [cv_sum]; exact hR2) (Nat.zero_le _) (Nat.zero_le _) hd (kk l D ad cA cZ p e s m args below meth c H locs ls hC hP hS hL)
end THEAP
end
section
/-! CALLS -/
theorem tPX.as {w : Nat} {D : va_G} {ad : Nat → Nat} {cA cZ : ClassId} {σ : tSt} {sz : Nat} {U V : State} (hv : U.vm = V.vm) (hh : U.heap = V.heap) (h : tPX w D ad cA cZ σ sz U) : tPX w D ad cA cZ σ sz V := by
  obtain ⟨h1, h2, h3, h4, h5, h6⟩ := h
  have ha : U.vm.Alike V.vm := by rw [hv]; exact Vm.Alike.refl _
  refine ⟨by rw [← hh]; exact h1, h2.same hv, va_K.moved ha h3, h4, by rw [← hh]; exact h5, fun hw => ?_⟩
  obtain ⟨⟨a1, a2⟩, a3, a4⟩ := h6 hw
  rw [← hh]
  exact ⟨⟨va_Z.moved ha a1, va_T.moved ha a2⟩, va_Z.moved ha a3, va_T.moved ha a4⟩
theorem tAW_in {n : Nat} {ad : Nat → Nat} {a b q : Nat} (h : tAW n ad b q) (hab : a ≤ b) : tAW n ad a q := h.elim Or.inl (fun z => Or.inr (Nat.le_trans hab z))
theorem tPX.call {y : tMS} {D : va_G} {ad : Nat → Nat} {cA cZ : ClassId} {p : Program} {s : State} {m : MethodId} {meth : Method} {c : Code} {σ : tSt} {H : Heap} {locs : List Loc} (hC : tCX y D ad cA cZ p s m meth c) (hP : va_P D vwCl (tpic ad cA cZ (shp y.2.2.2.2.2) σ) H) (hS : va_S (tAW (shp y.2.2.2.2.2).length ad s.heap.size) s.heap H locs) {U : State} (hU : U.heap = H) (hW : s.WarmedH U.vm) : tPX y.2.2.2.2.2 D ad cA cZ σ H.size U := by
  obtain ⟨-, -, -, -, -, -, hTB, hK, hI, hF⟩ := hC
  have ha : s.vm.Alike U.vm := hW.alike
  refine ⟨by rw [hU], hTB.warm hW, va_K.moved ha hK, hI, by rw [hU]; exact hP, fun hw => ?_⟩
  obtain ⟨⟨a1, a2⟩, a3, a4⟩ := hF hw
  rw [hU]
  exact ⟨⟨((a1.kept hS.2.1).moved ha).narrow (fun q h => tAW_in h hS.1), ((a2.kept hS.2.1).moved ha).narrow (fun q h => tAW_in h hS.1)⟩, ((a3.kept hS.2.1).moved ha).narrow (fun q h => tAW_in h hS.1), ((a4.kept hS.2.1).moved ha).narrow (fun q h => tAW_in h hS.1)⟩
def tZV (z : tMS) (n : Nat) : Prop := tWD (.code z.1 z.2.1 z.2.2.1 z.2.2.2.1) ∧ tWD (.initialized z.1.cls) ∧ (z.1.cls ≠ "java/lang/invoke/MethodHandle" ∧ z.1.cls ≠ "java/lang/invoke/VarHandle") ∧ (parseMethodDescriptor z.1.desc).map (fun d => d.parameters.length) = some n ∧ z.2.2.2.2.1.cells = 0 ∧ z.2.2.2.2.1.slots = 0
def tZI (z : tMS) : Prop := tWD (.instanceMethod z.1) ∧ tWD (.selects z.1.cls z.1 z.1)
def tLK (own : String) (ix : Nat) (z : tMS) : Prop := tWD (.methodLink own ix z.1) ∨ tWD (.methodLinkNest own ix z.1 "ApronDesk")
def tRM (y z : tMS) : Prop := y.2.2.2.2.2 = z.2.2.2.2.2 ∧ z.2.2.2.2.1.frames + 1 ≤ y.2.2.2.2.1.frames ∧ 8 + (z.2.2.1 + 11) + z.2.2.2.2.1.locals ≤ y.2.2.2.2.1.locals
section TCALL
variable {y z : tMS} {pc pc' tgt : Nat} {L st : List Value} {σ : tSt} {Q Q' : Option Int32 → tSt → Prop}
theorem tTail {p : Program} {l : Launch} {e : Env} {s : State} {m : MethodId} {args : Array Value} {below : List Frame} {meth : Method} {c : Code} {H : Heap} {locs : List Loc} {ls : Array Slot} {D : va_G} {ad : Nat → Nat} {cA cZ : ClassId} {st0 : List Value} {a : Array Value}
    (hC : tCX y D ad cA cZ p s m meth c) (hS : va_S (tAW (shp y.2.2.2.2.2).length ad s.heap.size) s.heap H locs) (hL : tLR ad ls y.2.2.1 L)
    (hr : va_Run p l e y.2.2.2.2.1 s m args below meth c H locs 0 0 0 0 (F0 m pc ls st0) (st.map (cv ad)) (tQR y.2.2.2.2.2 D ad cA cZ Q' a) (tAW (shp y.2.2.2.2.2).length ad H.size))
    (kk : ∀ r σ', Q' r σ' → TT y (pc + 3) L (psh r st) σ' Q) :
    W p l e y.2.2.2.2.1 s m args below meth c H locs 0 0 (MQ below (tQR y.2.2.2.2.2 D ad cA cZ Q) args s 0 0 (tAW (shp y.2.2.2.2.2).length ad s.heap.size)) (F0 m pc ls st0) := by
  intro T hT X
  obtain ⟨v, st₀, t, T', Lc, h0, X', hLc, e1, e2, ⟨⟨r, σ', hv, hq, hP'⟩, hz, hk⟩, stp⟩ := hr T hT X
  rw [h0] at hz hk
  have hv' : v = r.map Value.int := Outcome.returned.inj hv
  subst hv'
  have hS' : va_S (tAW (shp y.2.2.2.2.2).length ad s.heap.size) s.heap T'.heap (locs ++ Lc) := by
    refine ⟨Nat.le_trans hS.1 (by rw [e1]; exact hz), fun q h1 h2 => ?_, fun q hq => ?_⟩
    · rw [e1, hk q (Nat.lt_of_lt_of_le h1 hS.1) (fun z => h2 (tAW_in z hS.1))]
      exact hS.2.1 q h1 h2
    · rcases List.mem_append.mp hq with h | h
      · exact hS.2.2 q h
      · exact tAW_in (hLc q h) hS.1
  obtain ⟨t2, a1, b1⟩ := kk r σ' hq l D ad cA cZ p e s m args below meth c T'.heap (locs ++ Lc) ls hC (by rw [e1]; exact hP') hS' hL T' rfl X'
  refine ⟨t2, stp t2 ?_, b1⟩
  cases r <;> exact a1
theorem tr_callA {as : List Value} {k ix n ci : Nat} {fs : List (Option Nat)} {T : u_T} {N : Nat} (d : DC y pc (.invokevirtual ix) 3 pc') (hz : tZV z n) (hzi : tZI z) (hl : tLK y.1.cls ix z) (hR : tRM y z) (hs : (shp z.2.2.2.2.2)[k]? = some (.inr (ci, fs))) (hcl : vwCl[ci]? = some (z.1.cls, T, N)) (hn : as.length = n) (hst : Nat.ble (st.map fun v => v.category).sum 8 = true)
    (hc : CT z (.ref k :: as) σ Q') (kk : ∀ r σ', Q' r σ' → TT y pc' L (psh r st) σ' Q) : TT y pc L (as.reverse ++ .ref k :: st) σ Q := by
  obtain ⟨hd, rfl⟩ := d
  intro l D ad cA cZ p e s m args below meth c H locs ls hC hP hS hL
  have hM := hc l D ad cA cZ H.size
  obtain ⟨hw, hR1, hR2⟩ := hR
  obtain ⟨z1, z2, z3, z4, z5, z6⟩ := hz
  have hTB := hC.2.2.2.2.2.2.1
  rw [← hw] at hM hs
  have hblind : FrameBlind (va_Pc ((Value.ref k :: as).map (cv ad)) (tPX y.2.2.2.2.2 D ad cA cZ σ H.size)) := fun a U g mk q => ⟨q.1, tPX.as (U := U) rfl rfl q.2⟩
  have hrecv := va_recv hC.2.2.2.2.2.2.2.1 hP hcl (tpic_at hs)
  have hpre : PreV s H z.1.cls (ad k) (va_Pc ((Value.ref k :: as).map (cv ad)) (tPX y.2.2.2.2.2 D ad cA cZ σ H.size)) (as.map (cv ad)) := ⟨hblind, hrecv, fun U hU hW => ⟨rfl, tPX.call hC hP hS hU hW⟩⟩
  have hlen : ∀ sig, parseMethodDescriptor z.1.desc = some sig → n = sig.parameters.length := fun sig h => by
    rw [h] at z4; exact (Option.some.inj z4).symm
  have hwarm : ∀ w ∈ [Cond.code z.1 z.2.1 z.2.2.1 z.2.2.2.1], ∀ (a' : Array Value) (U : State), s.WarmedH U.vm → w.before a' U = true := fun w hw a' U hW => by
    rw [List.mem_singleton] at hw; subst hw; exact tTB.use (hTB.warm hW) z1
  have hstk : (F0 m pc ls ((as.reverse ++ .ref k :: st).map (cv ad))).stack = (as.map (cv ad)).reverse ++ .ref (ad k) :: st.map (cv ad) := by
    simp [cv]
  have hW8 : 2 * (F0 m pc ls ((as.reverse ++ .ref k :: st).map (cv ad))).monitorRoom + ((st.map (cv ad)).map fun v => v.category).sum ≤ 8 := by
    rw [cv_sum]
    exact Nat.le_trans (by simp) (Nat.le_of_ble_eq_true hst)
  have hfix : CallFix p m c y.2.1 y.2.2.1 s args [] y.1.cls := ⟨hC.1, hC.2.1, hC.2.2.1, hC.2.2.2.2.2.1, fun w h => by cases h⟩
  refine tTail (a := (Value.ref (ad k) :: as.map (cv ad)).toArray) hC hS hL ?_ kk
  rcases hl with hl | hl
  · exact va_runV hfix hM ⟨⟨z5, z6, hR1, hR2, hwarm, List.mem_singleton_self _, tTB.use hTB z1, tTB.use hTB z2, z3, hlen, tTB.use hTB hl⟩, tTB.use hTB hzi.1, tTB.use hTB hzi.2⟩ hpre rfl (by simpa using hn) hL.1 hstk hW8 hd ⟨Nat.zero_le _, Nat.zero_le _⟩
  · exact va_runVN hfix hM ⟨⟨⟨z5, z6, hR1, hR2, hwarm, List.mem_singleton_self _⟩, tTB.use hTB z1, tTB.use hTB z2, z3, hlen, tTB.use hTB hl⟩, tTB.use hTB hzi.1, tTB.use hTB hzi.2⟩ hpre rfl (by simpa using hn) hL.1 hstk hW8 hd ⟨Nat.zero_le _, Nat.zero_le _⟩
theorem tr_callS {as : List Value} {ix n : Nat} (d : DC y pc (.invokestatic ix) 3 pc') (hz : tZV z n) (hzi : tWD (.static z.1)) (hl : tLK y.1.cls ix z) (hR : tRM y z) (hn : as.length = n) (hst : Nat.ble (st.map fun v => v.category).sum 8 = true)
    (hc : CT z as σ Q') (kk : ∀ r σ', Q' r σ' → TT y pc' L (psh r st) σ' Q) : TT y pc L (as.reverse ++ st) σ Q := by
  obtain ⟨hd, rfl⟩ := d
  intro l D ad cA cZ p e s m args below meth c H locs ls hC hP hS hL
  have hM := hc l D ad cA cZ H.size
  obtain ⟨hw, hR1, hR2⟩ := hR
  obtain ⟨z1, z2, z3, z4, z5, z6⟩ := hz
  have hTB := hC.2.2.2.2.2.2.1
  rw [← hw] at hM
  have hblind : FrameBlind (va_Pc (as.map (cv ad)) (tPX y.2.2.2.2.2 D ad cA cZ σ H.size)) := fun a U g mk q => ⟨q.1, tPX.as (U := U) rfl rfl q.2⟩
  have hpre : PreS s H (va_Pc (as.map (cv ad)) (tPX y.2.2.2.2.2 D ad cA cZ σ H.size)) (as.map (cv ad)) := ⟨hblind, fun U hU hW => ⟨rfl, tPX.call hC hP hS hU hW⟩⟩
  have hlen : ∀ sig, parseMethodDescriptor z.1.desc = some sig → n = sig.parameters.length := fun sig h => by
    rw [h] at z4; exact (Option.some.inj z4).symm
  have hwarm : ∀ w ∈ [Cond.code z.1 z.2.1 z.2.2.1 z.2.2.2.1], ∀ (a' : Array Value) (U : State), s.WarmedH U.vm → w.before a' U = true := fun w hw a' U hW => by
    rw [List.mem_singleton] at hw; subst hw; exact tTB.use (hTB.warm hW) z1
  have hstk : (F0 m pc ls ((as.reverse ++ st).map (cv ad))).stack = (as.map (cv ad)).reverse ++ st.map (cv ad) := by
    simp
  have hW8 : 2 * (F0 m pc ls ((as.reverse ++ st).map (cv ad))).monitorRoom + ((st.map (cv ad)).map fun v => v.category).sum ≤ 8 := by
    rw [cv_sum]
    exact Nat.le_trans (by simp) (Nat.le_of_ble_eq_true hst)
  have hfix : CallFix p m c y.2.1 y.2.2.1 s args [] y.1.cls := ⟨hC.1, hC.2.1, hC.2.2.1, hC.2.2.2.2.2.1, fun w h => by cases h⟩
  refine tTail (a := (as.map (cv ad)).toArray) hC hS hL ?_ kk
  rcases hl with hl | hl
  · exact va_runS hfix hM ⟨⟨z5, z6, hR1, hR2, hwarm, List.mem_singleton_self _, tTB.use hTB z1, tTB.use hTB z2, z3, hlen, tTB.use hTB hl⟩, tTB.use hTB hzi⟩ hpre rfl (by simpa using hn) hL.1 hstk hW8 hd ⟨Nat.zero_le _, Nat.zero_le _⟩
  · exact va_runSN hfix hM ⟨⟨⟨z5, z6, hR1, hR2, hwarm, List.mem_singleton_self _⟩, tTB.use hTB z1, tTB.use hTB z2, z3, hlen, tTB.use hTB hl⟩, tTB.use hTB hzi, trivial⟩ hpre rfl (by simpa using hn) hL.1 hstk hW8 hd ⟨Nat.zero_le _, Nat.zero_le _⟩
/-- the answer and the store, told -/
def PE (r : Option Int32) (σ : tSt) : Option Int32 → tSt → Prop := fun r' σ' => r' = r ∧ σ' = σ
theorem tr_cv0 {k ix ci : Nat} {fs : List (Option Nat)} {T : u_T} {N : Nat} {r0 : Option Int32} {σ1 : tSt} (dd : DC y pc (.invokevirtual ix) 3 pc') (hz : tZV z 0) (hzi : tZI z) (hl : tLK y.1.cls ix z) (hR : tRM y z) (hs : (shp z.2.2.2.2.2)[k]? = some (.inr (ci, fs))) (hcl : vwCl[ci]? = some (z.1.cls, T, N)) (hst : Nat.ble (st.map fun v => v.category).sum 8 = true) (hc : CT z [.ref k] σ Q') (kk : ∀ r σ', Q' r σ' → TT y pc' L (psh r st) σ' Q) : TT y pc L (.ref k :: st) σ Q := tr_callA (as := []) dd hz hzi hl hR hs hcl rfl hst hc kk
theorem tr_ce0 {k ix ci : Nat} {fs : List (Option Nat)} {T : u_T} {N : Nat} {r0 : Option Int32} {σ1 : tSt} (dd : DC y pc (.invokevirtual ix) 3 pc') (hz : tZV z 0) (hzi : tZI z) (hl : tLK y.1.cls ix z) (hR : tRM y z) (hs : (shp z.2.2.2.2.2)[k]? = some (.inr (ci, fs))) (hcl : vwCl[ci]? = some (z.1.cls, T, N)) (hst : Nat.ble (st.map fun v => v.category).sum 8 = true) (hc : CT z [.ref k] σ (PE r0 σ1)) (kk : TT y pc' L (psh r0 st) σ1 Q) : TT y pc L (.ref k :: st) σ Q := tr_callA (as := []) dd hz hzi hl hR hs hcl rfl hst hc (fun r σ' h => by obtain ⟨rfl, rfl⟩ := h; exact kk)
theorem tr_cv1 {a : Value} {k ix ci : Nat} {fs : List (Option Nat)} {T : u_T} {N : Nat} {r0 : Option Int32} {σ1 : tSt} (dd : DC y pc (.invokevirtual ix) 3 pc') (hz : tZV z 1) (hzi : tZI z) (hl : tLK y.1.cls ix z) (hR : tRM y z) (hs : (shp z.2.2.2.2.2)[k]? = some (.inr (ci, fs))) (hcl : vwCl[ci]? = some (z.1.cls, T, N)) (hst : Nat.ble (st.map fun v => v.category).sum 8 = true) (hc : CT z [.ref k, a] σ Q') (kk : ∀ r σ', Q' r σ' → TT y pc' L (psh r st) σ' Q) : TT y pc L (a :: .ref k :: st) σ Q := tr_callA (as := [a]) dd hz hzi hl hR hs hcl rfl hst hc kk
theorem tr_ce1 {a : Value} {k ix ci : Nat} {fs : List (Option Nat)} {T : u_T} {N : Nat} {r0 : Option Int32} {σ1 : tSt} (dd : DC y pc (.invokevirtual ix) 3 pc') (hz : tZV z 1) (hzi : tZI z) (hl : tLK y.1.cls ix z) (hR : tRM y z) (hs : (shp z.2.2.2.2.2)[k]? = some (.inr (ci, fs))) (hcl : vwCl[ci]? = some (z.1.cls, T, N)) (hst : Nat.ble (st.map fun v => v.category).sum 8 = true) (hc : CT z [.ref k, a] σ (PE r0 σ1)) (kk : TT y pc' L (psh r0 st) σ1 Q) : TT y pc L (a :: .ref k :: st) σ Q := tr_callA (as := [a]) dd hz hzi hl hR hs hcl rfl hst hc (fun r σ' h => by obtain ⟨rfl, rfl⟩ := h; exact kk)
theorem tr_se1 {a : Value} {ix : Nat} {r0 : Option Int32} {σ1 : tSt} (dd : DC y pc (.invokestatic ix) 3 pc') (hz : tZV z 1) (hzi : tWD (.static z.1)) (hl : tLK y.1.cls ix z) (hR : tRM y z) (hst : Nat.ble (st.map fun v => v.category).sum 8 = true) (hc : CT z [a] σ (PE r0 σ1)) (kk : TT y pc' L (psh r0 st) σ1 Q) : TT y pc L (a :: st) σ Q := tr_callS (as := [a]) dd hz hzi hl hR rfl hst hc (fun r σ' h => by obtain ⟨rfl, rfl⟩ := h; exact kk)
theorem tr_cv2 {a b : Value} {k ix ci : Nat} {fs : List (Option Nat)} {T : u_T} {N : Nat} {r0 : Option Int32} {σ1 : tSt} (dd : DC y pc (.invokevirtual ix) 3 pc') (hz : tZV z 2) (hzi : tZI z) (hl : tLK y.1.cls ix z) (hR : tRM y z) (hs : (shp z.2.2.2.2.2)[k]? = some (.inr (ci, fs))) (hcl : vwCl[ci]? = some (z.1.cls, T, N)) (hst : Nat.ble (st.map fun v => v.category).sum 8 = true) (hc : CT z [.ref k, a, b] σ Q') (kk : ∀ r σ', Q' r σ' → TT y pc' L (psh r st) σ' Q) : TT y pc L (b :: a :: .ref k :: st) σ Q := tr_callA (as := [a, b]) dd hz hzi hl hR hs hcl rfl hst hc kk
theorem tr_ce2 {a b : Value} {k ix ci : Nat} {fs : List (Option Nat)} {T : u_T} {N : Nat} {r0 : Option Int32} {σ1 : tSt} (dd : DC y pc (.invokevirtual ix) 3 pc') (hz : tZV z 2) (hzi : tZI z) (hl : tLK y.1.cls ix z) (hR : tRM y z) (hs : (shp z.2.2.2.2.2)[k]? = some (.inr (ci, fs))) (hcl : vwCl[ci]? = some (z.1.cls, T, N)) (hst : Nat.ble (st.map fun v => v.category).sum 8 = true) (hc : CT z [.ref k, a, b] σ (PE r0 σ1)) (kk : TT y pc' L (psh r0 st) σ1 Q) : TT y pc L (b :: a :: .ref k :: st) σ Q := tr_callA (as := [a, b]) dd hz hzi hl hR hs hcl rfl hst hc (fun r σ' h => by obtain ⟨rfl, rfl⟩ := h; exact kk)
theorem tr_se2 {a b : Value} {ix : Nat} {r0 : Option Int32} {σ1 : tSt} (dd : DC y pc (.invokestatic ix) 3 pc') (hz : tZV z 2) (hzi : tWD (.static z.1)) (hl : tLK y.1.cls ix z) (hR : tRM y z) (hst : Nat.ble (st.map fun v => v.category).sum 8 = true) (hc : CT z [a, b] σ (PE r0 σ1)) (kk : TT y pc' L (psh r0 st) σ1 Q) : TT y pc L (b :: a :: st) σ Q := tr_callS (as := [a, b]) dd hz hzi hl hR rfl hst hc (fun r σ' h => by obtain ⟨rfl, rfl⟩ := h; exact kk)
theorem tr_cv3 {a b c : Value} {k ix ci : Nat} {fs : List (Option Nat)} {T : u_T} {N : Nat} {r0 : Option Int32} {σ1 : tSt} (dd : DC y pc (.invokevirtual ix) 3 pc') (hz : tZV z 3) (hzi : tZI z) (hl : tLK y.1.cls ix z) (hR : tRM y z) (hs : (shp z.2.2.2.2.2)[k]? = some (.inr (ci, fs))) (hcl : vwCl[ci]? = some (z.1.cls, T, N)) (hst : Nat.ble (st.map fun v => v.category).sum 8 = true) (hc : CT z [.ref k, a, b, c] σ Q') (kk : ∀ r σ', Q' r σ' → TT y pc' L (psh r st) σ' Q) : TT y pc L (c :: b :: a :: .ref k :: st) σ Q := tr_callA (as := [a, b, c]) dd hz hzi hl hR hs hcl rfl hst hc kk
theorem tr_ce3 {a b c : Value} {k ix ci : Nat} {fs : List (Option Nat)} {T : u_T} {N : Nat} {r0 : Option Int32} {σ1 : tSt} (dd : DC y pc (.invokevirtual ix) 3 pc') (hz : tZV z 3) (hzi : tZI z) (hl : tLK y.1.cls ix z) (hR : tRM y z) (hs : (shp z.2.2.2.2.2)[k]? = some (.inr (ci, fs))) (hcl : vwCl[ci]? = some (z.1.cls, T, N)) (hst : Nat.ble (st.map fun v => v.category).sum 8 = true) (hc : CT z [.ref k, a, b, c] σ (PE r0 σ1)) (kk : TT y pc' L (psh r0 st) σ1 Q) : TT y pc L (c :: b :: a :: .ref k :: st) σ Q := tr_callA (as := [a, b, c]) dd hz hzi hl hR hs hcl rfl hst hc (fun r σ' h => by obtain ⟨rfl, rfl⟩ := h; exact kk)
theorem tr_se3 {a b c : Value} {ix : Nat} {r0 : Option Int32} {σ1 : tSt} (dd : DC y pc (.invokestatic ix) 3 pc') (hz : tZV z 3) (hzi : tWD (.static z.1)) (hl : tLK y.1.cls ix z) (hR : tRM y z) (hst : Nat.ble (st.map fun v => v.category).sum 8 = true) (hc : CT z [a, b, c] σ (PE r0 σ1)) (kk : TT y pc' L (psh r0 st) σ1 Q) : TT y pc L (c :: b :: a :: st) σ Q := tr_callS (as := [a, b, c]) dd hz hzi hl hR rfl hst hc (fun r σ' h => by obtain ⟨rfl, rfl⟩ := h; exact kk)
theorem tr_cv4 {a b c d : Value} {k ix ci : Nat} {fs : List (Option Nat)} {T : u_T} {N : Nat} {r0 : Option Int32} {σ1 : tSt} (dd : DC y pc (.invokevirtual ix) 3 pc') (hz : tZV z 4) (hzi : tZI z) (hl : tLK y.1.cls ix z) (hR : tRM y z) (hs : (shp z.2.2.2.2.2)[k]? = some (.inr (ci, fs))) (hcl : vwCl[ci]? = some (z.1.cls, T, N)) (hst : Nat.ble (st.map fun v => v.category).sum 8 = true) (hc : CT z [.ref k, a, b, c, d] σ Q') (kk : ∀ r σ', Q' r σ' → TT y pc' L (psh r st) σ' Q) : TT y pc L (d :: c :: b :: a :: .ref k :: st) σ Q := tr_callA (as := [a, b, c, d]) dd hz hzi hl hR hs hcl rfl hst hc kk
theorem tr_ce4 {a b c d : Value} {k ix ci : Nat} {fs : List (Option Nat)} {T : u_T} {N : Nat} {r0 : Option Int32} {σ1 : tSt} (dd : DC y pc (.invokevirtual ix) 3 pc') (hz : tZV z 4) (hzi : tZI z) (hl : tLK y.1.cls ix z) (hR : tRM y z) (hs : (shp z.2.2.2.2.2)[k]? = some (.inr (ci, fs))) (hcl : vwCl[ci]? = some (z.1.cls, T, N)) (hst : Nat.ble (st.map fun v => v.category).sum 8 = true) (hc : CT z [.ref k, a, b, c, d] σ (PE r0 σ1)) (kk : TT y pc' L (psh r0 st) σ1 Q) : TT y pc L (d :: c :: b :: a :: .ref k :: st) σ Q := tr_callA (as := [a, b, c, d]) dd hz hzi hl hR hs hcl rfl hst hc (fun r σ' h => by obtain ⟨rfl, rfl⟩ := h; exact kk)
theorem tr_se4 {a b c d : Value} {ix : Nat} {r0 : Option Int32} {σ1 : tSt} (dd : DC y pc (.invokestatic ix) 3 pc') (hz : tZV z 4) (hzi : tWD (.static z.1)) (hl : tLK y.1.cls ix z) (hR : tRM y z) (hst : Nat.ble (st.map fun v => v.category).sum 8 = true) (hc : CT z [a, b, c, d] σ (PE r0 σ1)) (kk : TT y pc' L (psh r0 st) σ1 Q) : TT y pc L (d :: c :: b :: a :: st) σ Q := tr_callS (as := [a, b, c, d]) dd hz hzi hl hR rfl hst hc (fun r σ' h => by obtain ⟨rfl, rfl⟩ := h; exact kk)
theorem tr_cv5 {a b c d e : Value} {k ix ci : Nat} {fs : List (Option Nat)} {T : u_T} {N : Nat} {r0 : Option Int32} {σ1 : tSt} (dd : DC y pc (.invokevirtual ix) 3 pc') (hz : tZV z 5) (hzi : tZI z) (hl : tLK y.1.cls ix z) (hR : tRM y z) (hs : (shp z.2.2.2.2.2)[k]? = some (.inr (ci, fs))) (hcl : vwCl[ci]? = some (z.1.cls, T, N)) (hst : Nat.ble (st.map fun v => v.category).sum 8 = true) (hc : CT z [.ref k, a, b, c, d, e] σ Q') (kk : ∀ r σ', Q' r σ' → TT y pc' L (psh r st) σ' Q) : TT y pc L (e :: d :: c :: b :: a :: .ref k :: st) σ Q := tr_callA (as := [a, b, c, d, e]) dd hz hzi hl hR hs hcl rfl hst hc kk
theorem tr_ce5 {a b c d e : Value} {k ix ci : Nat} {fs : List (Option Nat)} {T : u_T} {N : Nat} {r0 : Option Int32} {σ1 : tSt} (dd : DC y pc (.invokevirtual ix) 3 pc') (hz : tZV z 5) (hzi : tZI z) (hl : tLK y.1.cls ix z) (hR : tRM y z) (hs : (shp z.2.2.2.2.2)[k]? = some (.inr (ci, fs))) (hcl : vwCl[ci]? = some (z.1.cls, T, N)) (hst : Nat.ble (st.map fun v => v.category).sum 8 = true) (hc : CT z [.ref k, a, b, c, d, e] σ (PE r0 σ1)) (kk : TT y pc' L (psh r0 st) σ1 Q) : TT y pc L (e :: d :: c :: b :: a :: .ref k :: st) σ Q := tr_callA (as := [a, b, c, d, e]) dd hz hzi hl hR hs hcl rfl hst hc (fun r σ' h => by obtain ⟨rfl, rfl⟩ := h; exact kk)
theorem tr_cv6 {a b c d e f : Value} {k ix ci : Nat} {fs : List (Option Nat)} {T : u_T} {N : Nat} {r0 : Option Int32} {σ1 : tSt} (dd : DC y pc (.invokevirtual ix) 3 pc') (hz : tZV z 6) (hzi : tZI z) (hl : tLK y.1.cls ix z) (hR : tRM y z) (hs : (shp z.2.2.2.2.2)[k]? = some (.inr (ci, fs))) (hcl : vwCl[ci]? = some (z.1.cls, T, N)) (hst : Nat.ble (st.map fun v => v.category).sum 8 = true) (hc : CT z [.ref k, a, b, c, d, e, f] σ Q') (kk : ∀ r σ', Q' r σ' → TT y pc' L (psh r st) σ' Q) : TT y pc L (f :: e :: d :: c :: b :: a :: .ref k :: st) σ Q := tr_callA (as := [a, b, c, d, e, f]) dd hz hzi hl hR hs hcl rfl hst hc kk
theorem tr_ce6 {a b c d e f : Value} {k ix ci : Nat} {fs : List (Option Nat)} {T : u_T} {N : Nat} {r0 : Option Int32} {σ1 : tSt} (dd : DC y pc (.invokevirtual ix) 3 pc') (hz : tZV z 6) (hzi : tZI z) (hl : tLK y.1.cls ix z) (hR : tRM y z) (hs : (shp z.2.2.2.2.2)[k]? = some (.inr (ci, fs))) (hcl : vwCl[ci]? = some (z.1.cls, T, N)) (hst : Nat.ble (st.map fun v => v.category).sum 8 = true) (hc : CT z [.ref k, a, b, c, d, e, f] σ (PE r0 σ1)) (kk : TT y pc' L (psh r0 st) σ1 Q) : TT y pc L (f :: e :: d :: c :: b :: a :: .ref k :: st) σ Q := tr_callA (as := [a, b, c, d, e, f]) dd hz hzi hl hR hs hcl rfl hst hc (fun r σ' h => by obtain ⟨rfl, rfl⟩ := h; exact kk)
theorem tr_cv7 {a b c d e f g : Value} {k ix ci : Nat} {fs : List (Option Nat)} {T : u_T} {N : Nat} {r0 : Option Int32} {σ1 : tSt} (dd : DC y pc (.invokevirtual ix) 3 pc') (hz : tZV z 7) (hzi : tZI z) (hl : tLK y.1.cls ix z) (hR : tRM y z) (hs : (shp z.2.2.2.2.2)[k]? = some (.inr (ci, fs))) (hcl : vwCl[ci]? = some (z.1.cls, T, N)) (hst : Nat.ble (st.map fun v => v.category).sum 8 = true) (hc : CT z [.ref k, a, b, c, d, e, f, g] σ Q') (kk : ∀ r σ', Q' r σ' → TT y pc' L (psh r st) σ' Q) : TT y pc L (g :: f :: e :: d :: c :: b :: a :: .ref k :: st) σ Q := tr_callA (as := [a, b, c, d, e, f, g]) dd hz hzi hl hR hs hcl rfl hst hc kk
theorem tr_ce7 {a b c d e f g : Value} {k ix ci : Nat} {fs : List (Option Nat)} {T : u_T} {N : Nat} {r0 : Option Int32} {σ1 : tSt} (dd : DC y pc (.invokevirtual ix) 3 pc') (hz : tZV z 7) (hzi : tZI z) (hl : tLK y.1.cls ix z) (hR : tRM y z) (hs : (shp z.2.2.2.2.2)[k]? = some (.inr (ci, fs))) (hcl : vwCl[ci]? = some (z.1.cls, T, N)) (hst : Nat.ble (st.map fun v => v.category).sum 8 = true) (hc : CT z [.ref k, a, b, c, d, e, f, g] σ (PE r0 σ1)) (kk : TT y pc' L (psh r0 st) σ1 Q) : TT y pc L (g :: f :: e :: d :: c :: b :: a :: .ref k :: st) σ Q := tr_callA (as := [a, b, c, d, e, f, g]) dd hz hzi hl hR hs hcl rfl hst hc (fun r σ' h => by obtain ⟨rfl, rfl⟩ := h; exact kk)
end TCALL
end
