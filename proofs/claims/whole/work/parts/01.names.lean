-- ===== PART A: goes FIRST, ahead of the names: the tables' words, and 'selects' of the private methods out of them =====
/-- a private method of a class that the tables say can be made, by its rows of tables_1 -/
def lw_okq (q : MethodName × Nat) : Prop := (q.1.cls ≠ "java/lang/invoke/MethodHandle" ∧ q.1.cls ≠ "java/lang/invoke/VarHandle") ∧ Cond.instantiable q.1.cls q.2 ∈ tables_1 ∧ Cond.privateMethod q.1 ∈ tables_1 ∧ Cond.instanceMethod q.1 ∈ tables_1
theorem lw_p0 : lw_okq (⟨"StackRun", "dropRunIf", "(Z)Z"⟩, 3) := ⟨⟨by decide +kernel, by decide +kernel⟩, List.mem_of_getElem? (i := 13) (by decide +kernel), List.mem_of_getElem? (i := 302) (by decide +kernel), List.mem_of_getElem? (i := 303) (by decide +kernel)⟩
theorem lw_p1 : lw_okq (⟨"StackRun$Run", "enter", "(I)V"⟩, 12) := ⟨⟨by decide +kernel, by decide +kernel⟩, List.mem_of_getElem? (i := 100) (by decide +kernel), List.mem_of_getElem? (i := 358) (by decide +kernel), List.mem_of_getElem? (i := 359) (by decide +kernel)⟩
theorem lw_p2 : lw_okq (⟨"StackRun$Run", "perform", "(LStackRun$Frame;)I"⟩, 12) := ⟨⟨by decide +kernel, by decide +kernel⟩, List.mem_of_getElem? (i := 100) (by decide +kernel), List.mem_of_getElem? (i := 387) (by decide +kernel), List.mem_of_getElem? (i := 388) (by decide +kernel)⟩
theorem lw_p3 : lw_okq (⟨"StackRun$Run", "makeRow", "(LStackRun$Cells;)I"⟩, 12) := ⟨⟨by decide +kernel, by decide +kernel⟩, List.mem_of_getElem? (i := 100) (by decide +kernel), List.mem_of_getElem? (i := 447) (by decide +kernel), List.mem_of_getElem? (i := 448) (by decide +kernel)⟩
theorem lw_p4 : lw_okq (⟨"StackRun$Run", "raise", "(I)I"⟩, 12) := ⟨⟨by decide +kernel, by decide +kernel⟩, List.mem_of_getElem? (i := 100) (by decide +kernel), List.mem_of_getElem? (i := 459) (by decide +kernel), List.mem_of_getElem? (i := 460) (by decide +kernel)⟩
theorem lw_p5 : lw_okq (⟨"StackRun$Run", "getFromRow", "(LStackRun$Cells;)I"⟩, 12) := ⟨⟨by decide +kernel, by decide +kernel⟩, List.mem_of_getElem? (i := 100) (by decide +kernel), List.mem_of_getElem? (i := 463) (by decide +kernel), List.mem_of_getElem? (i := 464) (by decide +kernel)⟩
theorem lw_p6 : lw_okq (⟨"StackRun$Run", "putIntoRow", "(LStackRun$Cells;)I"⟩, 12) := ⟨⟨by decide +kernel, by decide +kernel⟩, List.mem_of_getElem? (i := 100) (by decide +kernel), List.mem_of_getElem? (i := 490) (by decide +kernel), List.mem_of_getElem? (i := 491) (by decide +kernel)⟩
theorem lw_p7 : lw_okq (⟨"StackRun$Run", "callFunction", "(LStackRun$Cells;I)I"⟩, 12) := ⟨⟨by decide +kernel, by decide +kernel⟩, List.mem_of_getElem? (i := 100) (by decide +kernel), List.mem_of_getElem? (i := 506) (by decide +kernel), List.mem_of_getElem? (i := 507) (by decide +kernel)⟩
theorem lw_p8 : lw_okq (⟨"StackRun$Run", "callOutside", "(LStackRun$Cells;I)I"⟩, 12) := ⟨⟨by decide +kernel, by decide +kernel⟩, List.mem_of_getElem? (i := 100) (by decide +kernel), List.mem_of_getElem? (i := 510) (by decide +kernel), List.mem_of_getElem? (i := 511) (by decide +kernel)⟩
theorem lw_p9 : lw_okq (⟨"StackRun$Run", "giveBack", "(LStackRun$Cells;Z)I"⟩, 12) := ⟨⟨by decide +kernel, by decide +kernel⟩, List.mem_of_getElem? (i := 100) (by decide +kernel), List.mem_of_getElem? (i := 523) (by decide +kernel), List.mem_of_getElem? (i := 524) (by decide +kernel)⟩
theorem lw_p10 : lw_okq (⟨"StackRun$Run", "end", "(II)V"⟩, 12) := ⟨⟨by decide +kernel, by decide +kernel⟩, List.mem_of_getElem? (i := 100) (by decide +kernel), List.mem_of_getElem? (i := 527) (by decide +kernel), List.mem_of_getElem? (i := 528) (by decide +kernel)⟩
theorem lw_p11 : lw_okq (⟨"StackRun$Run", "throwTop", "(LStackRun$Cells;)I"⟩, 12) := ⟨⟨by decide +kernel, by decide +kernel⟩, List.mem_of_getElem? (i := 100) (by decide +kernel), List.mem_of_getElem? (i := 531) (by decide +kernel), List.mem_of_getElem? (i := 532) (by decide +kernel)⟩
theorem lw_p12 : lw_okq (⟨"StackRun$Run", "calculate", "(LStackRun$Cells;I)I"⟩, 12) := ⟨⟨by decide +kernel, by decide +kernel⟩, List.mem_of_getElem? (i := 100) (by decide +kernel), List.mem_of_getElem? (i := 535) (by decide +kernel), List.mem_of_getElem? (i := 536) (by decide +kernel)⟩
theorem lw_p13 : lw_okq (⟨"StackRun$Run", "unwind", "()V"⟩, 12) := ⟨⟨by decide +kernel, by decide +kernel⟩, List.mem_of_getElem? (i := 100) (by decide +kernel), List.mem_of_getElem? (i := 542) (by decide +kernel), List.mem_of_getElem? (i := 543) (by decide +kernel)⟩
theorem lw_p14 : lw_okq (⟨"StackRunModel", "stop", "()V"⟩, 36) := ⟨⟨by decide +kernel, by decide +kernel⟩, List.mem_of_getElem? (i := 591) (by decide +kernel), List.mem_of_getElem? (i := 710) (by decide +kernel), List.mem_of_getElem? (i := 711) (by decide +kernel)⟩
theorem lw_p15 : lw_okq (⟨"StackRunModel", "isFunction", "(I)Z"⟩, 36) := ⟨⟨by decide +kernel, by decide +kernel⟩, List.mem_of_getElem? (i := 591) (by decide +kernel), List.mem_of_getElem? (i := 718) (by decide +kernel), List.mem_of_getElem? (i := 719) (by decide +kernel)⟩
def lw_privs_1 : List (MethodName × Nat) := [(⟨"StackRun", "dropRunIf", "(Z)Z"⟩, 3), (⟨"StackRun$Run", "enter", "(I)V"⟩, 12), (⟨"StackRun$Run", "perform", "(LStackRun$Frame;)I"⟩, 12), (⟨"StackRun$Run", "makeRow", "(LStackRun$Cells;)I"⟩, 12), (⟨"StackRun$Run", "raise", "(I)I"⟩, 12), (⟨"StackRun$Run", "getFromRow", "(LStackRun$Cells;)I"⟩, 12), (⟨"StackRun$Run", "putIntoRow", "(LStackRun$Cells;)I"⟩, 12), (⟨"StackRun$Run", "callFunction", "(LStackRun$Cells;I)I"⟩, 12), (⟨"StackRun$Run", "callOutside", "(LStackRun$Cells;I)I"⟩, 12), (⟨"StackRun$Run", "giveBack", "(LStackRun$Cells;Z)I"⟩, 12), (⟨"StackRun$Run", "end", "(II)V"⟩, 12), (⟨"StackRun$Run", "throwTop", "(LStackRun$Cells;)I"⟩, 12), (⟨"StackRun$Run", "calculate", "(LStackRun$Cells;I)I"⟩, 12), (⟨"StackRun$Run", "unwind", "()V"⟩, 12), (⟨"StackRunModel", "stop", "()V"⟩, 36), (⟨"StackRunModel", "isFunction", "(I)Z"⟩, 36)]
theorem lw_r1 : ∀ q ∈ lw_privs_1, lw_okq q := List.forall_mem_cons.mpr ⟨lw_p0, List.forall_mem_cons.mpr ⟨lw_p1, List.forall_mem_cons.mpr ⟨lw_p2, List.forall_mem_cons.mpr ⟨lw_p3, List.forall_mem_cons.mpr ⟨lw_p4, List.forall_mem_cons.mpr ⟨lw_p5, List.forall_mem_cons.mpr ⟨lw_p6, List.forall_mem_cons.mpr ⟨lw_p7, List.forall_mem_cons.mpr ⟨lw_p8, List.forall_mem_cons.mpr ⟨lw_p9, List.forall_mem_cons.mpr ⟨lw_p10, List.forall_mem_cons.mpr ⟨lw_p11, List.forall_mem_cons.mpr ⟨lw_p12, List.forall_mem_cons.mpr ⟨lw_p13, List.forall_mem_cons.mpr ⟨lw_p14, List.forall_mem_cons.mpr ⟨lw_p15, fun _ h => absurd h List.not_mem_nil⟩⟩⟩⟩⟩⟩⟩⟩⟩⟩⟩⟩⟩⟩⟩⟩
theorem lw_p16 : lw_okq (⟨"StackRunModel", "open", "(I)V"⟩, 36) := ⟨⟨by decide +kernel, by decide +kernel⟩, List.mem_of_getElem? (i := 591) (by decide +kernel), List.mem_of_getElem? (i := 753) (by decide +kernel), List.mem_of_getElem? (i := 754) (by decide +kernel)⟩
theorem lw_p17 : lw_okq (⟨"StackRunModel", "step", "()V"⟩, 36) := ⟨⟨by decide +kernel, by decide +kernel⟩, List.mem_of_getElem? (i := 591) (by decide +kernel), List.mem_of_getElem? (i := 761) (by decide +kernel), List.mem_of_getElem? (i := 762) (by decide +kernel)⟩
theorem lw_p18 : lw_okq (⟨"StackRunModel", "canBe", "(II)Z"⟩, 36) := ⟨⟨by decide +kernel, by decide +kernel⟩, List.mem_of_getElem? (i := 591) (by decide +kernel), List.mem_of_getElem? (i := 765) (by decide +kernel), List.mem_of_getElem? (i := 766) (by decide +kernel)⟩
theorem lw_p19 : lw_okq (⟨"StackRunModel", "hasRoom", "()Z"⟩, 36) := ⟨⟨by decide +kernel, by decide +kernel⟩, List.mem_of_getElem? (i := 591) (by decide +kernel), List.mem_of_getElem? (i := 769) (by decide +kernel), List.mem_of_getElem? (i := 770) (by decide +kernel)⟩
theorem lw_p20 : lw_okq (⟨"StackRunModel", "isLocal", "(I)Z"⟩, 36) := ⟨⟨by decide +kernel, by decide +kernel⟩, List.mem_of_getElem? (i := 591) (by decide +kernel), List.mem_of_getElem? (i := 773) (by decide +kernel), List.mem_of_getElem? (i := 774) (by decide +kernel)⟩
theorem lw_p21 : lw_okq (⟨"StackRunModel", "isThere", "(IZ)Z"⟩, 36) := ⟨⟨by decide +kernel, by decide +kernel⟩, List.mem_of_getElem? (i := 591) (by decide +kernel), List.mem_of_getElem? (i := 777) (by decide +kernel), List.mem_of_getElem? (i := 778) (by decide +kernel)⟩
theorem lw_p22 : lw_okq (⟨"StackRunModel", "under", "(I)I"⟩, 36) := ⟨⟨by decide +kernel, by decide +kernel⟩, List.mem_of_getElem? (i := 591) (by decide +kernel), List.mem_of_getElem? (i := 781) (by decide +kernel), List.mem_of_getElem? (i := 782) (by decide +kernel)⟩
theorem lw_p23 : lw_okq (⟨"StackRunModel", "finish", "(II)V"⟩, 36) := ⟨⟨by decide +kernel, by decide +kernel⟩, List.mem_of_getElem? (i := 591) (by decide +kernel), List.mem_of_getElem? (i := 785) (by decide +kernel), List.mem_of_getElem? (i := 786) (by decide +kernel)⟩
theorem lw_p24 : lw_okq (⟨"StackRunModel", "move", "(II)V"⟩, 36) := ⟨⟨by decide +kernel, by decide +kernel⟩, List.mem_of_getElem? (i := 591) (by decide +kernel), List.mem_of_getElem? (i := 789) (by decide +kernel), List.mem_of_getElem? (i := 790) (by decide +kernel)⟩
theorem lw_p25 : lw_okq (⟨"StackRunModel", "push", "(II)V"⟩, 36) := ⟨⟨by decide +kernel, by decide +kernel⟩, List.mem_of_getElem? (i := 591) (by decide +kernel), List.mem_of_getElem? (i := 793) (by decide +kernel), List.mem_of_getElem? (i := 794) (by decide +kernel)⟩
theorem lw_p26 : lw_okq (⟨"StackRunModel", "drop", "(I)V"⟩, 36) := ⟨⟨by decide +kernel, by decide +kernel⟩, List.mem_of_getElem? (i := 591) (by decide +kernel), List.mem_of_getElem? (i := 797) (by decide +kernel), List.mem_of_getElem? (i := 798) (by decide +kernel)⟩
theorem lw_p27 : lw_okq (⟨"StackRunModel", "swap", "()V"⟩, 36) := ⟨⟨by decide +kernel, by decide +kernel⟩, List.mem_of_getElem? (i := 591) (by decide +kernel), List.mem_of_getElem? (i := 801) (by decide +kernel), List.mem_of_getElem? (i := 802) (by decide +kernel)⟩
theorem lw_p28 : lw_okq (⟨"StackRunModel", "keep", "(I)V"⟩, 36) := ⟨⟨by decide +kernel, by decide +kernel⟩, List.mem_of_getElem? (i := 591) (by decide +kernel), List.mem_of_getElem? (i := 805) (by decide +kernel), List.mem_of_getElem? (i := 806) (by decide +kernel)⟩
theorem lw_p29 : lw_okq (⟨"StackRunModel", "next", "()V"⟩, 36) := ⟨⟨by decide +kernel, by decide +kernel⟩, List.mem_of_getElem? (i := 591) (by decide +kernel), List.mem_of_getElem? (i := 809) (by decide +kernel), List.mem_of_getElem? (i := 810) (by decide +kernel)⟩
theorem lw_p30 : lw_okq (⟨"StackRunModel", "sum", "(I)V"⟩, 36) := ⟨⟨by decide +kernel, by decide +kernel⟩, List.mem_of_getElem? (i := 591) (by decide +kernel), List.mem_of_getElem? (i := 813) (by decide +kernel), List.mem_of_getElem? (i := 814) (by decide +kernel)⟩
theorem lw_p31 : lw_okq (⟨"StackRunModel", "raise", "(I)V"⟩, 36) := ⟨⟨by decide +kernel, by decide +kernel⟩, List.mem_of_getElem? (i := 591) (by decide +kernel), List.mem_of_getElem? (i := 817) (by decide +kernel), List.mem_of_getElem? (i := 818) (by decide +kernel)⟩
def lw_privs_2 : List (MethodName × Nat) := [(⟨"StackRunModel", "open", "(I)V"⟩, 36), (⟨"StackRunModel", "step", "()V"⟩, 36), (⟨"StackRunModel", "canBe", "(II)Z"⟩, 36), (⟨"StackRunModel", "hasRoom", "()Z"⟩, 36), (⟨"StackRunModel", "isLocal", "(I)Z"⟩, 36), (⟨"StackRunModel", "isThere", "(IZ)Z"⟩, 36), (⟨"StackRunModel", "under", "(I)I"⟩, 36), (⟨"StackRunModel", "finish", "(II)V"⟩, 36), (⟨"StackRunModel", "move", "(II)V"⟩, 36), (⟨"StackRunModel", "push", "(II)V"⟩, 36), (⟨"StackRunModel", "drop", "(I)V"⟩, 36), (⟨"StackRunModel", "swap", "()V"⟩, 36), (⟨"StackRunModel", "keep", "(I)V"⟩, 36), (⟨"StackRunModel", "next", "()V"⟩, 36), (⟨"StackRunModel", "sum", "(I)V"⟩, 36), (⟨"StackRunModel", "raise", "(I)V"⟩, 36)]
theorem lw_r2 : ∀ q ∈ lw_privs_2, lw_okq q := List.forall_mem_cons.mpr ⟨lw_p16, List.forall_mem_cons.mpr ⟨lw_p17, List.forall_mem_cons.mpr ⟨lw_p18, List.forall_mem_cons.mpr ⟨lw_p19, List.forall_mem_cons.mpr ⟨lw_p20, List.forall_mem_cons.mpr ⟨lw_p21, List.forall_mem_cons.mpr ⟨lw_p22, List.forall_mem_cons.mpr ⟨lw_p23, List.forall_mem_cons.mpr ⟨lw_p24, List.forall_mem_cons.mpr ⟨lw_p25, List.forall_mem_cons.mpr ⟨lw_p26, List.forall_mem_cons.mpr ⟨lw_p27, List.forall_mem_cons.mpr ⟨lw_p28, List.forall_mem_cons.mpr ⟨lw_p29, List.forall_mem_cons.mpr ⟨lw_p30, List.forall_mem_cons.mpr ⟨lw_p31, fun _ h => absurd h List.not_mem_nil⟩⟩⟩⟩⟩⟩⟩⟩⟩⟩⟩⟩⟩⟩⟩⟩
theorem lw_p32 : lw_okq (⟨"StackRunModel", "jump", "(II)V"⟩, 36) := ⟨⟨by decide +kernel, by decide +kernel⟩, List.mem_of_getElem? (i := 591) (by decide +kernel), List.mem_of_getElem? (i := 824) (by decide +kernel), List.mem_of_getElem? (i := 825) (by decide +kernel)⟩
theorem lw_p33 : lw_okq (⟨"StackRunModel", "create", "()V"⟩, 36) := ⟨⟨by decide +kernel, by decide +kernel⟩, List.mem_of_getElem? (i := 591) (by decide +kernel), List.mem_of_getElem? (i := 828) (by decide +kernel), List.mem_of_getElem? (i := 829) (by decide +kernel)⟩
theorem lw_p34 : lw_okq (⟨"StackRunModel", "reach", "(Z)V"⟩, 36) := ⟨⟨by decide +kernel, by decide +kernel⟩, List.mem_of_getElem? (i := 591) (by decide +kernel), List.mem_of_getElem? (i := 832) (by decide +kernel), List.mem_of_getElem? (i := 833) (by decide +kernel)⟩
theorem lw_p35 : lw_okq (⟨"StackRunModel", "callIn", "(I)V"⟩, 36) := ⟨⟨by decide +kernel, by decide +kernel⟩, List.mem_of_getElem? (i := 591) (by decide +kernel), List.mem_of_getElem? (i := 836) (by decide +kernel), List.mem_of_getElem? (i := 837) (by decide +kernel)⟩
theorem lw_p36 : lw_okq (⟨"StackRunModel", "callOut", "(I)V"⟩, 36) := ⟨⟨by decide +kernel, by decide +kernel⟩, List.mem_of_getElem? (i := 591) (by decide +kernel), List.mem_of_getElem? (i := 840) (by decide +kernel), List.mem_of_getElem? (i := 841) (by decide +kernel)⟩
theorem lw_p37 : lw_okq (⟨"StackRunModel", "comeBack", "()V"⟩, 36) := ⟨⟨by decide +kernel, by decide +kernel⟩, List.mem_of_getElem? (i := 591) (by decide +kernel), List.mem_of_getElem? (i := 844) (by decide +kernel), List.mem_of_getElem? (i := 845) (by decide +kernel)⟩
theorem lw_p38 : lw_okq (⟨"StackRunModel", "isDone", "(I)Z"⟩, 36) := ⟨⟨by decide +kernel, by decide +kernel⟩, List.mem_of_getElem? (i := 591) (by decide +kernel), List.mem_of_getElem? (i := 852) (by decide +kernel), List.mem_of_getElem? (i := 853) (by decide +kernel)⟩
theorem lw_p39 : lw_okq (⟨"StackRunModel", "isValue", "(IZI)Z"⟩, 36) := ⟨⟨by decide +kernel, by decide +kernel⟩, List.mem_of_getElem? (i := 591) (by decide +kernel), List.mem_of_getElem? (i := 860) (by decide +kernel), List.mem_of_getElem? (i := 861) (by decide +kernel)⟩
theorem lw_p40 : lw_okq (⟨"StackRunModel", "many", "(IZ)I"⟩, 36) := ⟨⟨by decide +kernel, by decide +kernel⟩, List.mem_of_getElem? (i := 591) (by decide +kernel), List.mem_of_getElem? (i := 864) (by decide +kernel), List.mem_of_getElem? (i := 865) (by decide +kernel)⟩
def lw_privs_3 : List (MethodName × Nat) := [(⟨"StackRunModel", "jump", "(II)V"⟩, 36), (⟨"StackRunModel", "create", "()V"⟩, 36), (⟨"StackRunModel", "reach", "(Z)V"⟩, 36), (⟨"StackRunModel", "callIn", "(I)V"⟩, 36), (⟨"StackRunModel", "callOut", "(I)V"⟩, 36), (⟨"StackRunModel", "comeBack", "()V"⟩, 36), (⟨"StackRunModel", "isDone", "(I)Z"⟩, 36), (⟨"StackRunModel", "isValue", "(IZI)Z"⟩, 36), (⟨"StackRunModel", "many", "(IZ)I"⟩, 36)]
theorem lw_r3 : ∀ q ∈ lw_privs_3, lw_okq q := List.forall_mem_cons.mpr ⟨lw_p32, List.forall_mem_cons.mpr ⟨lw_p33, List.forall_mem_cons.mpr ⟨lw_p34, List.forall_mem_cons.mpr ⟨lw_p35, List.forall_mem_cons.mpr ⟨lw_p36, List.forall_mem_cons.mpr ⟨lw_p37, List.forall_mem_cons.mpr ⟨lw_p38, List.forall_mem_cons.mpr ⟨lw_p39, List.forall_mem_cons.mpr ⟨lw_p40, fun _ h => absurd h List.not_mem_nil⟩⟩⟩⟩⟩⟩⟩⟩⟩
def lw_privs : List (MethodName × Nat) := lw_privs_1 ++ (lw_privs_2 ++ (lw_privs_3))
def lw_tbl : List Cond := k2_sels lw_privs ++ tables_1
theorem lw_privs_ok : ∀ q ∈ lw_privs, lw_okq q := by
  show ∀ q ∈ lw_privs_1 ++ (lw_privs_2 ++ (lw_privs_3)), lw_okq q
  exact List.forall_mem_append.mpr ⟨lw_r1, List.forall_mem_append.mpr ⟨lw_r2, lw_r3⟩⟩
/-! classes, by program out of the tables -/
def jc_T0 : u_T := fun k => match k with
  | 0 => ("StackRun", "program", "LStackRun$Program;", true)
  | 1 => ("StackRun", "answers", "LStackRun$Answers;", true)
  | _ => ("StackRun", "run", "LStackRun$Run;", true)
def jc_ty0 : Nat → FieldType := fun k => match k with
  | 0 => .object "StackRun$Program"
  | 1 => .object "StackRun$Answers"
  | _ => .object "StackRun$Run"
theorem jc_nm0 : ∀ a, a < 3 → ∀ b, b < 3 → a ≠ b → (jc_T0 a).2.1 ≠ (jc_T0 b).2.1 := by decide +kernel
theorem jc_ok0 : ∀ k, k < 3 → parseFieldDescriptor (jc_T0 k).2.2.1 = some (jc_ty0 k) := by decide +kernel
def jc_T1 : u_T := fun k => match k with
  | 0 => ("StackRun$Program", "functions", "[LStackRun$Function;", true)
  | _ => ("StackRun$Program", "count", "I", false)
def jc_ty1 : Nat → FieldType := fun k => match k with
  | 0 => .array (.object "StackRun$Function")
  | _ => .int
theorem jc_nm1 : ∀ a, a < 2 → ∀ b, b < 2 → a ≠ b → (jc_T1 a).2.1 ≠ (jc_T1 b).2.1 := by decide +kernel
theorem jc_ok1 : ∀ k, k < 2 → parseFieldDescriptor (jc_T1 k).2.2.1 = some (jc_ty1 k) := by decide +kernel
def jc_T2 : u_T := fun k => match k with
  | 0 => ("StackRun$Function", "operations", "[I", true)
  | 1 => ("StackRun$Function", "numbers", "[I", true)
  | 2 => ("StackRun$Function", "froms", "[I", true)
  | 3 => ("StackRun$Function", "tos", "[I", true)
  | 4 => ("StackRun$Function", "targets", "[I", true)
  | 5 => ("StackRun$Function", "codes", "[I", true)
  | 6 => ("StackRun$Function", "narrowed", "[Z", true)
  | 7 => ("StackRun$Function", "params", "I", false)
  | 8 => ("StackRun$Function", "locals", "I", false)
  | 9 => ("StackRun$Function", "givesValue", "Z", false)
  | 10 => ("StackRun$Function", "size", "I", false)
  | _ => ("StackRun$Function", "handlers", "I", false)
def jc_ty2 : Nat → FieldType := fun k => match k with
  | 0 => .array (.int)
  | 1 => .array (.int)
  | 2 => .array (.int)
  | 3 => .array (.int)
  | 4 => .array (.int)
  | 5 => .array (.int)
  | 6 => .array (.boolean)
  | 7 => .int
  | 8 => .int
  | 9 => .boolean
  | 10 => .int
  | _ => .int
theorem jc_nm2 : ∀ a, a < 12 → ∀ b, b < 12 → a ≠ b → (jc_T2 a).2.1 ≠ (jc_T2 b).2.1 := by decide +kernel
theorem jc_ok2 : ∀ k, k < 12 → parseFieldDescriptor (jc_T2 k).2.2.1 = some (jc_ty2 k) := by decide +kernel
def jc_T3 : u_T := fun k => match k with
  | 0 => ("StackRun$Answers", "given", "[I", true)
  | _ => ("StackRun$Answers", "count", "I", false)
def jc_ty3 : Nat → FieldType := fun k => match k with
  | 0 => .array (.int)
  | _ => .int
theorem jc_nm3 : ∀ a, a < 2 → ∀ b, b < 2 → a ≠ b → (jc_T3 a).2.1 ≠ (jc_T3 b).2.1 := by decide +kernel
theorem jc_ok3 : ∀ k, k < 2 → parseFieldDescriptor (jc_T3 k).2.2.1 = some (jc_ty3 k) := by decide +kernel
def jc_T4 : u_T := fun k => match k with
  | 0 => ("StackRun$Run", "program", "LStackRun$Program;", true)
  | 1 => ("StackRun$Run", "answers", "LStackRun$Answers;", true)
  | 2 => ("StackRun$Run", "frames", "[LStackRun$Frame;", true)
  | 3 => ("StackRun$Run", "rows", "LStackRun$Rows;", true)
  | 4 => ("StackRun$Run", "outside", "LStackRun$Outside;", true)
  | 5 => ("StackRun$Run", "exists", "Z", false)
  | 6 => ("StackRun$Run", "depth", "I", false)
  | 7 => ("StackRun$Run", "most", "I", false)
  | 8 => ("StackRun$Run", "steps", "I", false)
  | 9 => ("StackRun$Run", "ended", "I", false)
  | 10 => ("StackRun$Run", "result", "I", false)
  | _ => ("StackRun$Run", "thrown", "I", false)
def jc_ty4 : Nat → FieldType := fun k => match k with
  | 0 => .object "StackRun$Program"
  | 1 => .object "StackRun$Answers"
  | 2 => .array (.object "StackRun$Frame")
  | 3 => .object "StackRun$Rows"
  | 4 => .object "StackRun$Outside"
  | 5 => .boolean
  | 6 => .int
  | 7 => .int
  | 8 => .int
  | 9 => .int
  | 10 => .int
  | _ => .int
theorem jc_nm4 : ∀ a, a < 12 → ∀ b, b < 12 → a ≠ b → (jc_T4 a).2.1 ≠ (jc_T4 b).2.1 := by decide +kernel
theorem jc_ok4 : ∀ k, k < 12 → parseFieldDescriptor (jc_T4 k).2.2.1 = some (jc_ty4 k) := by decide +kernel
def jc_T5 : u_T := fun k => match k with
  | 0 => ("StackRun$Frame", "stack", "LStackRun$Cells;", true)
  | 1 => ("StackRun$Frame", "ownLocals", "LStackRun$Cells;", true)
  | 2 => ("StackRun$Frame", "function", "I", false)
  | _ => ("StackRun$Frame", "next", "I", false)
def jc_ty5 : Nat → FieldType := fun k => match k with
  | 0 => .object "StackRun$Cells"
  | 1 => .object "StackRun$Cells"
  | 2 => .int
  | _ => .int
theorem jc_nm5 : ∀ a, a < 4 → ∀ b, b < 4 → a ≠ b → (jc_T5 a).2.1 ≠ (jc_T5 b).2.1 := by decide +kernel
theorem jc_ok5 : ∀ k, k < 4 → parseFieldDescriptor (jc_T5 k).2.2.1 = some (jc_ty5 k) := by decide +kernel
def jc_T6 : u_T := fun k => match k with
  | 0 => ("StackRun$Cells", "values", "[I", true)
  | 1 => ("StackRun$Cells", "kinds", "[I", true)
  | _ => ("StackRun$Cells", "size", "I", false)
def jc_ty6 : Nat → FieldType := fun k => match k with
  | 0 => .array (.int)
  | 1 => .array (.int)
  | _ => .int
theorem jc_nm6 : ∀ a, a < 3 → ∀ b, b < 3 → a ≠ b → (jc_T6 a).2.1 ≠ (jc_T6 b).2.1 := by decide +kernel
theorem jc_ok6 : ∀ k, k < 3 → parseFieldDescriptor (jc_T6 k).2.2.1 = some (jc_ty6 k) := by decide +kernel
def jc_T7 : u_T := fun k => match k with
  | 0 => ("StackRun$Rows", "store", "[I", true)
  | 1 => ("StackRun$Rows", "starts", "[I", true)
  | 2 => ("StackRun$Rows", "sizes", "[I", true)
  | 3 => ("StackRun$Rows", "count", "I", false)
  | _ => ("StackRun$Rows", "used", "I", false)
def jc_ty7 : Nat → FieldType := fun k => match k with
  | 0 => .array (.int)
  | 1 => .array (.int)
  | 2 => .array (.int)
  | 3 => .int
  | _ => .int
theorem jc_nm7 : ∀ a, a < 5 → ∀ b, b < 5 → a ≠ b → (jc_T7 a).2.1 ≠ (jc_T7 b).2.1 := by decide +kernel
theorem jc_ok7 : ∀ k, k < 5 → parseFieldDescriptor (jc_T7 k).2.2.1 = some (jc_ty7 k) := by decide +kernel
def jc_T8 : u_T := fun k => match k with
  | 0 => ("StackRun$Outside", "kept", "[I", true)
  | _ => ("StackRun$Outside", "count", "I", false)
def jc_ty8 : Nat → FieldType := fun k => match k with
  | 0 => .array (.int)
  | _ => .int
theorem jc_nm8 : ∀ a, a < 2 → ∀ b, b < 2 → a ≠ b → (jc_T8 a).2.1 ≠ (jc_T8 b).2.1 := by decide +kernel
theorem jc_ok8 : ∀ k, k < 2 → parseFieldDescriptor (jc_T8 k).2.2.1 = some (jc_ty8 k) := by decide +kernel
def jc_T9 : u_T := fun k => match k with
  | 0 => ("StackRunModel", "thrown", "I", false)
  | 1 => ("StackRunModel", "functions", "I", false)
  | 2 => ("StackRunModel", "params", "[I", true)
  | 3 => ("StackRunModel", "localMany", "[I", true)
  | 4 => ("StackRunModel", "results", "[I", true)
  | 5 => ("StackRunModel", "sizes", "[I", true)
  | 6 => ("StackRunModel", "ops", "[I", true)
  | 7 => ("StackRunModel", "numbers", "[I", true)
  | 8 => ("StackRunModel", "handlers", "[I", true)
  | 9 => ("StackRunModel", "froms", "[I", true)
  | 10 => ("StackRunModel", "tos", "[I", true)
  | 11 => ("StackRunModel", "targets", "[I", true)
  | 12 => ("StackRunModel", "anyCode", "[Z", true)
  | 13 => ("StackRunModel", "codes", "[I", true)
  | 14 => ("StackRunModel", "answers", "[I", true)
  | 15 => ("StackRunModel", "answerMany", "I", false)
  | 16 => ("StackRunModel", "isRun", "Z", false)
  | 17 => ("StackRunModel", "ended", "I", false)
  | 18 => ("StackRunModel", "value", "I", false)
  | 19 => ("StackRunModel", "steps", "I", false)
  | 20 => ("StackRunModel", "outside", "I", false)
  | 21 => ("StackRunModel", "most", "I", false)
  | 22 => ("StackRunModel", "deep", "I", false)
  | 23 => ("StackRunModel", "who", "[I", true)
  | 24 => ("StackRunModel", "place", "[I", true)
  | 25 => ("StackRunModel", "height", "[I", true)
  | 26 => ("StackRunModel", "stack", "[I", true)
  | 27 => ("StackRunModel", "stackRows", "[I", true)
  | 28 => ("StackRunModel", "locals", "[I", true)
  | 29 => ("StackRunModel", "localRows", "[I", true)
  | 30 => ("StackRunModel", "rows", "I", false)
  | 31 => ("StackRunModel", "used", "I", false)
  | 32 => ("StackRunModel", "starts", "[I", true)
  | 33 => ("StackRunModel", "lengths", "[I", true)
  | 34 => ("StackRunModel", "cells", "[I", true)
  | _ => ("StackRunModel", "calls", "[I", true)
def jc_ty9 : Nat → FieldType := fun k => match k with
  | 0 => .int
  | 1 => .int
  | 2 => .array (.int)
  | 3 => .array (.int)
  | 4 => .array (.int)
  | 5 => .array (.int)
  | 6 => .array (.int)
  | 7 => .array (.int)
  | 8 => .array (.int)
  | 9 => .array (.int)
  | 10 => .array (.int)
  | 11 => .array (.int)
  | 12 => .array (.boolean)
  | 13 => .array (.int)
  | 14 => .array (.int)
  | 15 => .int
  | 16 => .boolean
  | 17 => .int
  | 18 => .int
  | 19 => .int
  | 20 => .int
  | 21 => .int
  | 22 => .int
  | 23 => .array (.int)
  | 24 => .array (.int)
  | 25 => .array (.int)
  | 26 => .array (.int)
  | 27 => .array (.int)
  | 28 => .array (.int)
  | 29 => .array (.int)
  | 30 => .int
  | 31 => .int
  | 32 => .array (.int)
  | 33 => .array (.int)
  | 34 => .array (.int)
  | _ => .array (.int)
theorem jc_nm9 : ∀ a, a < 36 → ∀ b, b < 36 → a ≠ b → (jc_T9 a).2.1 ≠ (jc_T9 b).2.1 := by decide +kernel
theorem jc_ok9 : ∀ k, k < 36 → parseFieldDescriptor (jc_T9 k).2.2.1 = some (jc_ty9 k) := by decide +kernel
abbrev vwCl : List vw_C := [("StackRun", jc_T0, 3), ("StackRun$Program", jc_T1, 2), ("StackRun$Function", jc_T2, 12), ("StackRun$Answers", jc_T3, 2), ("StackRun$Run", jc_T4, 12), ("StackRun$Frame", jc_T5, 4), ("StackRun$Cells", jc_T6, 3), ("StackRun$Rows", jc_T7, 5), ("StackRun$Outside", jc_T8, 2), ("StackRunModel", jc_T9, 36)]
def jm_at : List FieldType := [.int, .boolean, .object "StackRun$Function", .object "StackRun$Frame"]
def jm_ao : List String := ["StackRun$Function", "StackRun$Frame"]
def jm_isNest (w : Cond) : Bool := match w with
  | .fieldLinkNest _ _ _ _ _ _ => true
  | .methodLinkNest _ _ _ _ => true
  | _ => false
def jm_gw : List Cond := lw_tbl.filter goodWord
def jm_nw : List Cond := lw_tbl.filter jm_isNest
theorem jm_gw_good : ∀ w ∈ jm_gw, (w.onTables && w.keeps) = true ∨ ∃ ty, w = .arrayClass ty := fun w h => good_of_word (List.mem_filter.mp h).2
theorem jm_nw_nest : ∀ w ∈ jm_nw, jm_isNest w = true := fun w h => (List.mem_filter.mp h).2
theorem jw1 {w : Cond} {i : Nat} (h : tables_1_1[i]? = some w) (g : goodWord w = true) : w ∈ jm_gw := List.mem_filter.mpr ⟨List.mem_append_right _ (List.mem_append_left _ (List.mem_of_getElem? h)), g⟩
theorem jn1 {w : Cond} {i : Nat} (h : tables_1_1[i]? = some w) (g : jm_isNest w = true) : w ∈ jm_nw := List.mem_filter.mpr ⟨List.mem_append_right _ (List.mem_append_left _ (List.mem_of_getElem? h)), g⟩
theorem jw2 {w : Cond} {i : Nat} (h : tables_1_2[i]? = some w) (g : goodWord w = true) : w ∈ jm_gw := List.mem_filter.mpr ⟨List.mem_append_right _ (List.mem_append_right _ (List.mem_append_left _ (List.mem_of_getElem? h))), g⟩
theorem jn2 {w : Cond} {i : Nat} (h : tables_1_2[i]? = some w) (g : jm_isNest w = true) : w ∈ jm_nw := List.mem_filter.mpr ⟨List.mem_append_right _ (List.mem_append_right _ (List.mem_append_left _ (List.mem_of_getElem? h))), g⟩
theorem jw3 {w : Cond} {i : Nat} (h : tables_1_3[i]? = some w) (g : goodWord w = true) : w ∈ jm_gw := List.mem_filter.mpr ⟨List.mem_append_right _ (List.mem_append_right _ (List.mem_append_right _ (List.mem_append_left _ (List.mem_of_getElem? h)))), g⟩
theorem jn3 {w : Cond} {i : Nat} (h : tables_1_3[i]? = some w) (g : jm_isNest w = true) : w ∈ jm_nw := List.mem_filter.mpr ⟨List.mem_append_right _ (List.mem_append_right _ (List.mem_append_right _ (List.mem_append_left _ (List.mem_of_getElem? h)))), g⟩
theorem jw4 {w : Cond} {i : Nat} (h : tables_1_4[i]? = some w) (g : goodWord w = true) : w ∈ jm_gw := List.mem_filter.mpr ⟨List.mem_append_right _ (List.mem_append_right _ (List.mem_append_right _ (List.mem_append_right _ (List.mem_of_getElem? h)))), g⟩
theorem jn4 {w : Cond} {i : Nat} (h : tables_1_4[i]? = some w) (g : jm_isNest w = true) : w ∈ jm_nw := List.mem_filter.mpr ⟨List.mem_append_right _ (List.mem_append_right _ (List.mem_append_right _ (List.mem_append_right _ (List.mem_of_getElem? h)))), g⟩
theorem jwS {w : Cond} {i : Nat} (h : (k2_sels lw_privs)[i]? = some w) (g : goodWord w = true) : w ∈ jm_gw := List.mem_filter.mpr ⟨List.mem_append_left _ (List.mem_of_getElem? h), g⟩
/-! methods: 0 law_law, 1 S_init, 2 S_function, 3 S_add, 4 S_change, 5 S_handler, 6 S_only, 7 S_clear, 8 S_answer, 9 S_forget, 10 S_begin, 11 S_go, 12 S_frame, 13 S_value, 14 S_kind, 15 S_row, 16 S_trace, 17 S_look, 18 S_dropRunIf, 19 M_init, 20 M_isFunction, 21 M_stop, 22 M_function, 23 M_add, 24 M_change, 25 M_isMark, 26 M_handler, 27 M_only, 28 M_clear, 29 M_answer, 30 M_forget, 31 M_begin, 32 M_open, 33 M_finish, 34 M_push, 35 M_under, 36 M_drop, 37 M_next, 38 M_isThere, 39 M_hasRoom, 40 M_isLocal, 41 M_canBe, 42 M_raise, 43 M_sum, 44 M_create, 45 M_reach, 46 M_callIn, 47 M_callOut, 48 M_comeBack, 49 M_swap, 50 M_keep, 51 M_move, 52 M_jump, 53 M_step, 54 M_go, 55 M_isDone, 56 M_frame, 57 M_many, 58 M_isValue, 59 M_kind, 60 M_value, 61 M_row, 62 M_trace, 63 M_look, 64 Answers_init, 65 Answers_empty, 66 Answers_give, 67 Answers_at, 68 Cells_init, 69 Cells_resetTo, 70 Cells_isFull, 71 Cells_valueAt, 72 Cells_kindAt, 73 Cells_top, 74 Cells_isInt, 75 Cells_isRow, 76 Cells_areInts, 77 Cells_rowNumber, 78 Cells_put, 79 Cells_set, 80 Cells_take, 81 Cells_replaceInts, 82 Frame_init, 83 Frame_reset, 84 Frame_cells, 85 Frame_goOnWithCode, 86 Function_init, 87 Function_mayHave, 88 Function_reset, 89 Function_has, 90 Function_append, 91 Function_replace, 92 Function_guard, 93 Function_narrow, 94 Function_targetFor, 95 Function_isOperation, 96 Function_isPlace, 97 Outside_init, 98 Outside_empty, 99 Outside_note, 100 Outside_at, 101 Program_init, 102 Program_empty, 103 Program_open, 104 Program_find, 105 Rows_init, 106 Rows_empty, 107 Rows_mayMake, 108 Rows_make, 109 Rows_has, 110 Rows_at, 111 Rows_set, 112 Run_init, 113 Run_drop, 114 Run_start, 115 Run_frameBelow, 116 Run_enter, 117 Run_end, 118 Run_step, 119 Run_perform, 120 Run_pushInt, 121 Run_pop, 122 Run_copy, 123 Run_swap, 124 Run_store, 125 Run_jump, 126 Run_jumpIf, 127 Run_calculate, 128 Run_combine, 129 Run_makeRow, 130 Run_getFromRow, 131 Run_putIntoRow, 132 Run_sizeOfRow, 133 Run_callFunction, 134 Run_callOutside, 135 Run_giveBack, 136 Run_throwTop, 137 Run_raise, 138 Run_unwind -/
def jm_nmL : List MethodName := [x,
  ⟨"StackRun", "<init>", "()V"⟩,
  ⟨"StackRun", "function", "(III)I"⟩,
  ⟨"StackRun", "add", "(III)I"⟩,
  ⟨"StackRun", "change", "(IIII)Z"⟩,
  ⟨"StackRun", "handler", "(IIII)Z"⟩,
  ⟨"StackRun", "only", "(II)Z"⟩,
  ⟨"StackRun", "clear", "()V"⟩,
  ⟨"StackRun", "answer", "(I)I"⟩,
  ⟨"StackRun", "forget", "()V"⟩,
  ⟨"StackRun", "begin", "()V"⟩,
  ⟨"StackRun", "go", "(I)I"⟩,
  ⟨"StackRun", "frame", "(II)I"⟩,
  ⟨"StackRun", "value", "(IZI)I"⟩,
  ⟨"StackRun", "kind", "(IZI)I"⟩,
  ⟨"StackRun", "row", "(II)I"⟩,
  ⟨"StackRun", "trace", "(II)I"⟩,
  ⟨"StackRun", "look", "(I)I"⟩,
  ⟨"StackRun", "dropRunIf", "(Z)Z"⟩,
  ⟨"StackRunModel", "<init>", "()V"⟩,
  ⟨"StackRunModel", "isFunction", "(I)Z"⟩,
  ⟨"StackRunModel", "stop", "()V"⟩,
  ⟨"StackRunModel", "function", "(III)I"⟩,
  ⟨"StackRunModel", "add", "(III)I"⟩,
  ⟨"StackRunModel", "change", "(IIII)Z"⟩,
  ⟨"StackRunModel", "isMark", "(I)Z"⟩,
  ⟨"StackRunModel", "handler", "(IIII)Z"⟩,
  ⟨"StackRunModel", "only", "(II)Z"⟩,
  ⟨"StackRunModel", "clear", "()V"⟩,
  ⟨"StackRunModel", "answer", "(I)I"⟩,
  ⟨"StackRunModel", "forget", "()V"⟩,
  ⟨"StackRunModel", "begin", "()V"⟩,
  ⟨"StackRunModel", "open", "(I)V"⟩,
  ⟨"StackRunModel", "finish", "(II)V"⟩,
  ⟨"StackRunModel", "push", "(II)V"⟩,
  ⟨"StackRunModel", "under", "(I)I"⟩,
  ⟨"StackRunModel", "drop", "(I)V"⟩,
  ⟨"StackRunModel", "next", "()V"⟩,
  ⟨"StackRunModel", "isThere", "(IZ)Z"⟩,
  ⟨"StackRunModel", "hasRoom", "()Z"⟩,
  ⟨"StackRunModel", "isLocal", "(I)Z"⟩,
  ⟨"StackRunModel", "canBe", "(II)Z"⟩,
  ⟨"StackRunModel", "raise", "(I)V"⟩,
  ⟨"StackRunModel", "sum", "(I)V"⟩,
  ⟨"StackRunModel", "create", "()V"⟩,
  ⟨"StackRunModel", "reach", "(Z)V"⟩,
  ⟨"StackRunModel", "callIn", "(I)V"⟩,
  ⟨"StackRunModel", "callOut", "(I)V"⟩,
  ⟨"StackRunModel", "comeBack", "()V"⟩,
  ⟨"StackRunModel", "swap", "()V"⟩,
  ⟨"StackRunModel", "keep", "(I)V"⟩,
  ⟨"StackRunModel", "move", "(II)V"⟩,
  ⟨"StackRunModel", "jump", "(II)V"⟩,
  ⟨"StackRunModel", "step", "()V"⟩,
  ⟨"StackRunModel", "go", "(I)I"⟩,
  ⟨"StackRunModel", "isDone", "(I)Z"⟩,
  ⟨"StackRunModel", "frame", "(II)I"⟩,
  ⟨"StackRunModel", "many", "(IZ)I"⟩,
  ⟨"StackRunModel", "isValue", "(IZI)Z"⟩,
  ⟨"StackRunModel", "kind", "(IZI)I"⟩,
  ⟨"StackRunModel", "value", "(IZI)I"⟩,
  ⟨"StackRunModel", "row", "(II)I"⟩,
  ⟨"StackRunModel", "trace", "(II)I"⟩,
  ⟨"StackRunModel", "look", "(I)I"⟩,
  ⟨"StackRun$Answers", "<init>", "()V"⟩,
  ⟨"StackRun$Answers", "empty", "()V"⟩,
  ⟨"StackRun$Answers", "give", "(I)I"⟩,
  ⟨"StackRun$Answers", "at", "(I)I"⟩,
  ⟨"StackRun$Cells", "<init>", "(I)V"⟩,
  ⟨"StackRun$Cells", "resetTo", "(I)V"⟩,
  ⟨"StackRun$Cells", "isFull", "()Z"⟩,
  ⟨"StackRun$Cells", "valueAt", "(I)I"⟩,
  ⟨"StackRun$Cells", "kindAt", "(I)I"⟩,
  ⟨"StackRun$Cells", "top", "(I)I"⟩,
  ⟨"StackRun$Cells", "isInt", "(I)Z"⟩,
  ⟨"StackRun$Cells", "isRow", "(I)Z"⟩,
  ⟨"StackRun$Cells", "areInts", "(I)Z"⟩,
  ⟨"StackRun$Cells", "rowNumber", "(I)I"⟩,
  ⟨"StackRun$Cells", "put", "(II)V"⟩,
  ⟨"StackRun$Cells", "set", "(III)V"⟩,
  ⟨"StackRun$Cells", "take", "(I)V"⟩,
  ⟨"StackRun$Cells", "replaceInts", "(II)V"⟩,
  ⟨"StackRun$Frame", "<init>", "()V"⟩,
  ⟨"StackRun$Frame", "reset", "(II)V"⟩,
  ⟨"StackRun$Frame", "cells", "(Z)LStackRun$Cells;"⟩,
  ⟨"StackRun$Frame", "goOnWithCode", "(II)V"⟩,
  ⟨"StackRun$Function", "<init>", "()V"⟩,
  ⟨"StackRun$Function", "mayHave", "(III)Z"⟩,
  ⟨"StackRun$Function", "reset", "(III)V"⟩,
  ⟨"StackRun$Function", "has", "(I)Z"⟩,
  ⟨"StackRun$Function", "append", "(II)I"⟩,
  ⟨"StackRun$Function", "replace", "(III)Z"⟩,
  ⟨"StackRun$Function", "guard", "(III)Z"⟩,
  ⟨"StackRun$Function", "narrow", "(I)Z"⟩,
  ⟨"StackRun$Function", "targetFor", "(II)I"⟩,
  ⟨"StackRun$Function", "isOperation", "(I)Z"⟩,
  ⟨"StackRun$Function", "isPlace", "(I)Z"⟩,
  ⟨"StackRun$Outside", "<init>", "()V"⟩,
  ⟨"StackRun$Outside", "empty", "()V"⟩,
  ⟨"StackRun$Outside", "note", "(ILStackRun$Cells;II)V"⟩,
  ⟨"StackRun$Outside", "at", "(II)I"⟩,
  ⟨"StackRun$Program", "<init>", "()V"⟩,
  ⟨"StackRun$Program", "empty", "()V"⟩,
  ⟨"StackRun$Program", "open", "(III)I"⟩,
  ⟨"StackRun$Program", "find", "(I)LStackRun$Function;"⟩,
  ⟨"StackRun$Rows", "<init>", "()V"⟩,
  ⟨"StackRun$Rows", "empty", "()V"⟩,
  ⟨"StackRun$Rows", "mayMake", "(I)Z"⟩,
  ⟨"StackRun$Rows", "make", "(I)I"⟩,
  ⟨"StackRun$Rows", "has", "(II)Z"⟩,
  ⟨"StackRun$Rows", "at", "(II)I"⟩,
  ⟨"StackRun$Rows", "set", "(III)V"⟩,
  ⟨"StackRun$Run", "<init>", "(LStackRun$Program;LStackRun$Answers;)V"⟩,
  ⟨"StackRun$Run", "drop", "()V"⟩,
  ⟨"StackRun$Run", "start", "()V"⟩,
  ⟨"StackRun$Run", "frameBelow", "(I)LStackRun$Frame;"⟩,
  ⟨"StackRun$Run", "enter", "(I)V"⟩,
  ⟨"StackRun$Run", "end", "(II)V"⟩,
  ⟨"StackRun$Run", "step", "()V"⟩,
  ⟨"StackRun$Run", "perform", "(LStackRun$Frame;)I"⟩,
  ⟨"StackRun$Run", "pushInt", "(LStackRun$Cells;I)I"⟩,
  ⟨"StackRun$Run", "pop", "(LStackRun$Cells;)I"⟩,
  ⟨"StackRun$Run", "copy", "(LStackRun$Cells;ILStackRun$Cells;)I"⟩,
  ⟨"StackRun$Run", "swap", "(LStackRun$Cells;)I"⟩,
  ⟨"StackRun$Run", "store", "(LStackRun$Cells;LStackRun$Cells;I)I"⟩,
  ⟨"StackRun$Run", "jump", "(LStackRun$Frame;I)I"⟩,
  ⟨"StackRun$Run", "jumpIf", "(LStackRun$Frame;IZ)I"⟩,
  ⟨"StackRun$Run", "calculate", "(LStackRun$Cells;I)I"⟩,
  ⟨"StackRun$Run", "combine", "(III)I"⟩,
  ⟨"StackRun$Run", "makeRow", "(LStackRun$Cells;)I"⟩,
  ⟨"StackRun$Run", "getFromRow", "(LStackRun$Cells;)I"⟩,
  ⟨"StackRun$Run", "putIntoRow", "(LStackRun$Cells;)I"⟩,
  ⟨"StackRun$Run", "sizeOfRow", "(LStackRun$Cells;)I"⟩,
  ⟨"StackRun$Run", "callFunction", "(LStackRun$Cells;I)I"⟩,
  ⟨"StackRun$Run", "callOutside", "(LStackRun$Cells;I)I"⟩,
  ⟨"StackRun$Run", "giveBack", "(LStackRun$Cells;Z)I"⟩,
  ⟨"StackRun$Run", "throwTop", "(LStackRun$Cells;)I"⟩,
  ⟨"StackRun$Run", "raise", "(I)I"⟩,
  ⟨"StackRun$Run", "unwind", "()V"⟩]
def jm_byL : List ByteArray := [code, prog_1_method_1_code, prog_1_method_2_code, prog_1_method_3_code, prog_1_method_4_code, prog_1_method_5_code, prog_1_method_6_code, prog_1_method_7_code, prog_1_method_8_code, prog_1_method_9_code, prog_1_method_10_code, prog_1_method_11_code, prog_1_method_12_code, prog_1_method_13_code, prog_1_method_14_code, prog_1_method_15_code, prog_1_method_16_code, prog_1_method_17_code, prog_1_method_18_code, prog_11_method_1_code, prog_11_method_3_code, prog_11_method_4_code, prog_11_method_5_code, prog_11_method_6_code, prog_11_method_7_code, prog_11_method_8_code, prog_11_method_9_code, prog_11_method_10_code, prog_11_method_11_code, prog_11_method_12_code, prog_11_method_13_code, prog_11_method_14_code, prog_11_method_15_code, prog_11_method_16_code, prog_11_method_17_code, prog_11_method_18_code, prog_11_method_19_code, prog_11_method_20_code, prog_11_method_21_code, prog_11_method_22_code, prog_11_method_23_code, prog_11_method_24_code, prog_11_method_25_code, prog_11_method_27_code, prog_11_method_28_code, prog_11_method_29_code, prog_11_method_30_code, prog_11_method_31_code, prog_11_method_32_code, prog_11_method_33_code, prog_11_method_34_code, prog_11_method_35_code, prog_11_method_36_code, prog_11_method_37_code, prog_11_method_38_code, prog_11_method_39_code, prog_11_method_40_code, prog_11_method_41_code, prog_11_method_42_code, prog_11_method_43_code, prog_11_method_44_code, prog_11_method_45_code, prog_11_method_46_code, prog_11_method_47_code, prog_2_method_1_code, prog_2_method_2_code, prog_2_method_3_code, prog_2_method_4_code, prog_3_method_1_code, prog_3_method_2_code, prog_3_method_3_code, prog_3_method_4_code, prog_3_method_5_code, prog_3_method_6_code, prog_3_method_7_code, prog_3_method_8_code, prog_3_method_9_code, prog_3_method_10_code, prog_3_method_11_code, prog_3_method_12_code, prog_3_method_13_code, prog_3_method_14_code, prog_4_method_1_code, prog_4_method_2_code, prog_4_method_3_code, prog_4_method_4_code, prog_5_method_1_code, prog_5_method_2_code, prog_5_method_3_code, prog_5_method_4_code, prog_5_method_5_code, prog_5_method_6_code, prog_5_method_7_code, prog_5_method_8_code, prog_5_method_9_code, prog_5_method_10_code, prog_5_method_11_code, prog_6_method_1_code, prog_6_method_2_code, prog_6_method_3_code, prog_6_method_4_code, prog_7_method_1_code, prog_7_method_2_code, prog_7_method_3_code, prog_7_method_4_code, prog_8_method_1_code, prog_8_method_2_code, prog_8_method_3_code, prog_8_method_4_code, prog_8_method_5_code, prog_8_method_6_code, prog_8_method_7_code, prog_9_method_1_code, prog_9_method_2_code, prog_9_method_3_code, prog_9_method_4_code, prog_9_method_5_code, prog_9_method_6_code, prog_9_method_7_code, prog_9_method_8_code, prog_9_method_9_code, prog_9_method_10_code, prog_9_method_11_code, prog_9_method_12_code, prog_9_method_13_code, prog_9_method_14_code, prog_9_method_15_code, prog_9_method_16_code, prog_9_method_17_code, prog_9_method_18_code, prog_9_method_19_code, prog_9_method_20_code, prog_9_method_21_code, prog_9_method_22_code, prog_9_method_23_code, prog_9_method_24_code, prog_9_method_25_code, prog_9_method_26_code, prog_9_method_27_code]
def jm_mxL : List Nat := [4, 1, 5, 6, 6, 6, 4, 1, 2, 1, 1, 3, 4, 5, 5, 3, 3, 2, 2, 1, 2, 1, 5, 5, 5, 1, 6, 4, 1, 2, 1, 1, 3, 3, 4, 2, 2, 1, 6, 1, 2, 4, 5, 4, 3, 4, 5, 5, 4, 5, 2, 3, 5, 6, 4, 2, 4, 3, 4, 5, 6, 3, 3, 2, 1, 1, 2, 2, 3, 3, 1, 2, 2, 2, 2, 2, 3, 2, 3, 4, 2, 3, 1, 3, 2, 3, 1, 3, 4, 2, 3, 4, 4, 2, 5, 1, 1, 1, 1, 7, 4, 2, 1, 4, 2, 1, 1, 2, 3, 3, 3, 4, 4, 1, 1, 2, 3, 3, 3, 7, 2, 1, 4, 5, 3, 2, 4, 5, 3, 4, 4, 4, 1, 7, 5, 4, 2, 2, 4]
def jm_rtL : List (Option FieldType) := [some (.boolean), none, some (.int), some (.int), some (.boolean), some (.boolean), some (.boolean), none, some (.int), none, none, some (.int), some (.int), some (.int), some (.int), some (.int), some (.int), some (.int), some (.boolean), none, some (.boolean), none, some (.int), some (.int), some (.boolean), some (.boolean), some (.boolean), some (.boolean), none, some (.int), none, none, none, none, none, some (.int), none, none, some (.boolean), some (.boolean), some (.boolean), some (.boolean), none, none, none, none, none, none, none, none, none, none, none, none, some (.int), some (.boolean), some (.int), some (.int), some (.boolean), some (.int), some (.int), some (.int), some (.int), some (.int), none, none, some (.int), some (.int), none, none, some (.boolean), some (.int), some (.int), some (.int), some (.boolean), some (.boolean), some (.boolean), some (.int), none, none, none, none, none, none, some (.object "StackRun$Cells"), none, none, some (.boolean), none, some (.boolean), some (.int), some (.boolean), some (.boolean), some (.boolean), some (.int), some (.boolean), some (.boolean), none, none, none, some (.int), none, none, some (.int), some (.object "StackRun$Function"), none, none, some (.boolean), some (.int), some (.boolean), some (.int), none, none, none, none, some (.object "StackRun$Frame"), none, none, none, some (.int), some (.int), some (.int), some (.int), some (.int), some (.int), some (.int), some (.int), some (.int), some (.int), some (.int), some (.int), some (.int), some (.int), some (.int), some (.int), some (.int), some (.int), some (.int), none]
def jm_lvL : List Nat := [7, 3, 2, 2, 3, 3, 3, 2, 1, 1, 4, 6, 1, 1, 1, 2, 1, 0, 2, 0, 0, 0, 1, 1, 1, 0, 1, 1, 1, 0, 0, 1, 0, 0, 0, 0, 0, 0, 1, 0, 0, 2, 1, 2, 2, 2, 2, 1, 1, 1, 1, 2, 1, 3, 4, 0, 1, 1, 2, 3, 3, 0, 0, 0, 0, 0, 0, 0, 0, 0, 0, 0, 0, 1, 1, 1, 2, 1, 0, 0, 0, 1, 1, 1, 0, 1, 0, 0, 0, 0, 1, 1, 1, 0, 0, 0, 0, 0, 0, 2, 0, 1, 0, 1, 0, 0, 0, 0, 1, 0, 1, 1, 2, 1, 3, 0, 2, 0, 5, 4, 1, 1, 1, 1, 2, 0, 2, 3, 0, 2, 2, 3, 2, 3, 3, 2, 2, 0, 2]
def jm_nm (y : Nat) : MethodName := jm_nmL.getD y x
def jm_by (y : Nat) : ByteArray := jm_byL.getD y code
def jm_mx (y : Nat) : Nat := jm_mxL.getD y 0
def jm_rt (y : Nat) : Option FieldType := jm_rtL.getD y none
def jm_lv (y : Nat) : Nat := jm_lvL.getD y 0
theorem jm_getD {α : Type} {P : α → Prop} (l : List α) (d : α) (h : ∀ a ∈ l, P a) (hd : P d) (y : Nat) : P (l.getD y d) := by
  rw [List.getD_eq_getElem?_getD]
  cases hy : l[y]? with
  | none => exact hd
  | some a => exact h a (List.mem_of_getElem? hy)
theorem jm_mx_le (y : Nat) : jm_mx y ≤ 21 := jm_getD (P := fun n => n ≤ 21) jm_mxL 0 (by decide +kernel) (by decide) y
theorem jm_plain (y : Nat) : plainName (jm_nm y).cls = true := jm_getD (P := fun m => plainName m.cls = true) jm_nmL x (by decide +kernel) (by decide +kernel) y
