section
-- ===== PART A: goes FIRST, ahead of the names: the tables' words, and 'selects' of the private methods out of them =====
/-- a private method of a class that the tables say can be made, by its rows of tables_1 -/
def lw_okq (q : MethodName × Nat) : Prop := (q.1.cls ≠ "java/lang/invoke/MethodHandle" ∧ q.1.cls ≠ "java/lang/invoke/VarHandle") ∧ Cond.instantiable q.1.cls q.2 ∈ tables_1 ∧ Cond.privateMethod q.1 ∈ tables_1 ∧ Cond.instanceMethod q.1 ∈ tables_1
theorem lw_p0 : lw_okq (⟨"StepWalk$Program", "add", "(LStepWalk$Part;)I"⟩, 2) := ⟨⟨by decide +kernel, by decide +kernel⟩, List.mem_of_getElem? (i := 20) (by decide +kernel), List.mem_of_getElem? (i := 208) (by decide +kernel), List.mem_of_getElem? (i := 209) (by decide +kernel)⟩
theorem lw_p1 : lw_okq (⟨"StepWalk$Program", "takeParts", "(LStepWalk$Part;III)Z"⟩, 2) := ⟨⟨by decide +kernel, by decide +kernel⟩, List.mem_of_getElem? (i := 20) (by decide +kernel), List.mem_of_getElem? (i := 220) (by decide +kernel), List.mem_of_getElem? (i := 221) (by decide +kernel)⟩
theorem lw_p2 : lw_okq (⟨"StepWalk$Walk", "layOut", "(LStepWalk$Part;)LStepWalk$Spot;"⟩, 10) := ⟨⟨by decide +kernel, by decide +kernel⟩, List.mem_of_getElem? (i := 35) (by decide +kernel), List.mem_of_getElem? (i := 283) (by decide +kernel), List.mem_of_getElem? (i := 284) (by decide +kernel)⟩
theorem lw_p3 : lw_okq (⟨"StepWalk$Walk", "lookAtLimits", "()V"⟩, 10) := ⟨⟨by decide +kernel, by decide +kernel⟩, List.mem_of_getElem? (i := 35) (by decide +kernel), List.mem_of_getElem? (i := 356) (by decide +kernel), List.mem_of_getElem? (i := 357) (by decide +kernel)⟩
theorem lw_p4 : lw_okq (⟨"StepWalk$Walk", "reckon", "(LStepWalk$Part;)J"⟩, 10) := ⟨⟨by decide +kernel, by decide +kernel⟩, List.mem_of_getElem? (i := 35) (by decide +kernel), List.mem_of_getElem? (i := 360) (by decide +kernel), List.mem_of_getElem? (i := 361) (by decide +kernel)⟩
theorem lw_p5 : lw_okq (⟨"StepWalk$Walk", "giveUp", "(LStepWalk$Spot;)V"⟩, 10) := ⟨⟨by decide +kernel, by decide +kernel⟩, List.mem_of_getElem? (i := 35) (by decide +kernel), List.mem_of_getElem? (i := 371) (by decide +kernel), List.mem_of_getElem? (i := 372) (by decide +kernel)⟩
theorem lw_p6 : lw_okq (⟨"StepWalk$Walk", "goOn", "(LStepWalk$Spot;)Z"⟩, 10) := ⟨⟨by decide +kernel, by decide +kernel⟩, List.mem_of_getElem? (i := 35) (by decide +kernel), List.mem_of_getElem? (i := 379) (by decide +kernel), List.mem_of_getElem? (i := 380) (by decide +kernel)⟩
theorem lw_p7 : lw_okq (⟨"StepWalk$Walk", "begin", "(LStepWalk$Spot;)Z"⟩, 10) := ⟨⟨by decide +kernel, by decide +kernel⟩, List.mem_of_getElem? (i := 35) (by decide +kernel), List.mem_of_getElem? (i := 383) (by decide +kernel), List.mem_of_getElem? (i := 384) (by decide +kernel)⟩
theorem lw_p8 : lw_okq (⟨"StepWalk$Walk", "takeEffect", "(LStepWalk$Spot;)V"⟩, 10) := ⟨⟨by decide +kernel, by decide +kernel⟩, List.mem_of_getElem? (i := 35) (by decide +kernel), List.mem_of_getElem? (i := 394) (by decide +kernel), List.mem_of_getElem? (i := 395) (by decide +kernel)⟩
theorem lw_p9 : lw_okq (⟨"StepWalk$Walk", "advance", "(LStepWalk$Spot;)Z"⟩, 10) := ⟨⟨by decide +kernel, by decide +kernel⟩, List.mem_of_getElem? (i := 35) (by decide +kernel), List.mem_of_getElem? (i := 399) (by decide +kernel), List.mem_of_getElem? (i := 400) (by decide +kernel)⟩
theorem lw_p10 : lw_okq (⟨"StepWalk$Walk", "moveRamp", "(LStepWalk$Spot;)Z"⟩, 10) := ⟨⟨by decide +kernel, by decide +kernel⟩, List.mem_of_getElem? (i := 35) (by decide +kernel), List.mem_of_getElem? (i := 403) (by decide +kernel), List.mem_of_getElem? (i := 404) (by decide +kernel)⟩
theorem lw_p11 : lw_okq (⟨"StepWalk$Walk", "goOnInOrder", "(LStepWalk$Spot;)Z"⟩, 10) := ⟨⟨by decide +kernel, by decide +kernel⟩, List.mem_of_getElem? (i := 35) (by decide +kernel), List.mem_of_getElem? (i := 410) (by decide +kernel), List.mem_of_getElem? (i := 411) (by decide +kernel)⟩
theorem lw_p12 : lw_okq (⟨"StepWalk$Walk", "goOnSideBySide", "(LStepWalk$Spot;)Z"⟩, 10) := ⟨⟨by decide +kernel, by decide +kernel⟩, List.mem_of_getElem? (i := 35) (by decide +kernel), List.mem_of_getElem? (i := 418) (by decide +kernel), List.mem_of_getElem? (i := 419) (by decide +kernel)⟩
theorem lw_p13 : lw_okq (⟨"StepWalk$Walk", "goOnRepeating", "(LStepWalk$Spot;)Z"⟩, 10) := ⟨⟨by decide +kernel, by decide +kernel⟩, List.mem_of_getElem? (i := 35) (by decide +kernel), List.mem_of_getElem? (i := 422) (by decide +kernel), List.mem_of_getElem? (i := 423) (by decide +kernel)⟩
theorem lw_p14 : lw_okq (⟨"StepWalk$Walk", "isLive", "()Z"⟩, 10) := ⟨⟨by decide +kernel, by decide +kernel⟩, List.mem_of_getElem? (i := 35) (by decide +kernel), List.mem_of_getElem? (i := 444) (by decide +kernel), List.mem_of_getElem? (i := 445) (by decide +kernel)⟩
theorem lw_p15 : lw_okq (⟨"StepWalkModel", "put", "(IIIIJII)I"⟩, 38) := ⟨⟨by decide +kernel, by decide +kernel⟩, List.mem_of_getElem? (i := 506) (by decide +kernel), List.mem_of_getElem? (i := 632) (by decide +kernel), List.mem_of_getElem? (i := 633) (by decide +kernel)⟩
def lw_privs_1 : List (MethodName × Nat) := [(⟨"StepWalk$Program", "add", "(LStepWalk$Part;)I"⟩, 2), (⟨"StepWalk$Program", "takeParts", "(LStepWalk$Part;III)Z"⟩, 2), (⟨"StepWalk$Walk", "layOut", "(LStepWalk$Part;)LStepWalk$Spot;"⟩, 10), (⟨"StepWalk$Walk", "lookAtLimits", "()V"⟩, 10), (⟨"StepWalk$Walk", "reckon", "(LStepWalk$Part;)J"⟩, 10), (⟨"StepWalk$Walk", "giveUp", "(LStepWalk$Spot;)V"⟩, 10), (⟨"StepWalk$Walk", "goOn", "(LStepWalk$Spot;)Z"⟩, 10), (⟨"StepWalk$Walk", "begin", "(LStepWalk$Spot;)Z"⟩, 10), (⟨"StepWalk$Walk", "takeEffect", "(LStepWalk$Spot;)V"⟩, 10), (⟨"StepWalk$Walk", "advance", "(LStepWalk$Spot;)Z"⟩, 10), (⟨"StepWalk$Walk", "moveRamp", "(LStepWalk$Spot;)Z"⟩, 10), (⟨"StepWalk$Walk", "goOnInOrder", "(LStepWalk$Spot;)Z"⟩, 10), (⟨"StepWalk$Walk", "goOnSideBySide", "(LStepWalk$Spot;)Z"⟩, 10), (⟨"StepWalk$Walk", "goOnRepeating", "(LStepWalk$Spot;)Z"⟩, 10), (⟨"StepWalk$Walk", "isLive", "()Z"⟩, 10), (⟨"StepWalkModel", "put", "(IIIIJII)I"⟩, 38)]
theorem lw_r1 : ∀ q ∈ lw_privs_1, lw_okq q := List.forall_mem_cons.mpr ⟨lw_p0, List.forall_mem_cons.mpr ⟨lw_p1, List.forall_mem_cons.mpr ⟨lw_p2, List.forall_mem_cons.mpr ⟨lw_p3, List.forall_mem_cons.mpr ⟨lw_p4, List.forall_mem_cons.mpr ⟨lw_p5, List.forall_mem_cons.mpr ⟨lw_p6, List.forall_mem_cons.mpr ⟨lw_p7, List.forall_mem_cons.mpr ⟨lw_p8, List.forall_mem_cons.mpr ⟨lw_p9, List.forall_mem_cons.mpr ⟨lw_p10, List.forall_mem_cons.mpr ⟨lw_p11, List.forall_mem_cons.mpr ⟨lw_p12, List.forall_mem_cons.mpr ⟨lw_p13, List.forall_mem_cons.mpr ⟨lw_p14, List.forall_mem_cons.mpr ⟨lw_p15, fun _ h => absurd h List.not_mem_nil⟩⟩⟩⟩⟩⟩⟩⟩⟩⟩⟩⟩⟩⟩⟩⟩
theorem lw_p16 : lw_okq (⟨"StepWalkModel", "areParts", "(IIII)Z"⟩, 38) := ⟨⟨by decide +kernel, by decide +kernel⟩, List.mem_of_getElem? (i := 506) (by decide +kernel), List.mem_of_getElem? (i := 640) (by decide +kernel), List.mem_of_getElem? (i := 641) (by decide +kernel)⟩
theorem lw_p17 : lw_okq (⟨"StepWalkModel", "isStatement", "(I)Z"⟩, 38) := ⟨⟨by decide +kernel, by decide +kernel⟩, List.mem_of_getElem? (i := 506) (by decide +kernel), List.mem_of_getElem? (i := 644) (by decide +kernel), List.mem_of_getElem? (i := 645) (by decide +kernel)⟩
theorem lw_p18 : lw_okq (⟨"StepWalkModel", "isNode", "(I)Z"⟩, 38) := ⟨⟨by decide +kernel, by decide +kernel⟩, List.mem_of_getElem? (i := 506) (by decide +kernel), List.mem_of_getElem? (i := 648) (by decide +kernel), List.mem_of_getElem? (i := 649) (by decide +kernel)⟩
theorem lw_p19 : lw_okq (⟨"StepWalkModel", "isValue", "(I)Z"⟩, 38) := ⟨⟨by decide +kernel, by decide +kernel⟩, List.mem_of_getElem? (i := 506) (by decide +kernel), List.mem_of_getElem? (i := 655) (by decide +kernel), List.mem_of_getElem? (i := 656) (by decide +kernel)⟩
theorem lw_p20 : lw_okq (⟨"StepWalkModel", "depth", "(I)I"⟩, 38) := ⟨⟨by decide +kernel, by decide +kernel⟩, List.mem_of_getElem? (i := 506) (by decide +kernel), List.mem_of_getElem? (i := 659) (by decide +kernel), List.mem_of_getElem? (i := 660) (by decide +kernel)⟩
theorem lw_p21 : lw_okq (⟨"StepWalkModel", "counted", "(I)I"⟩, 38) := ⟨⟨by decide +kernel, by decide +kernel⟩, List.mem_of_getElem? (i := 506) (by decide +kernel), List.mem_of_getElem? (i := 671) (by decide +kernel), List.mem_of_getElem? (i := 672) (by decide +kernel)⟩
theorem lw_p22 : lw_okq (⟨"StepWalkModel", "lay", "(I)I"⟩, 38) := ⟨⟨by decide +kernel, by decide +kernel⟩, List.mem_of_getElem? (i := 506) (by decide +kernel), List.mem_of_getElem? (i := 675) (by decide +kernel), List.mem_of_getElem? (i := 676) (by decide +kernel)⟩
theorem lw_p23 : lw_okq (⟨"StepWalkModel", "look", "(I)Z"⟩, 38) := ⟨⟨by decide +kernel, by decide +kernel⟩, List.mem_of_getElem? (i := 506) (by decide +kernel), List.mem_of_getElem? (i := 683) (by decide +kernel), List.mem_of_getElem? (i := 684) (by decide +kernel)⟩
theorem lw_p24 : lw_okq (⟨"StepWalkModel", "reckon", "(I)J"⟩, 38) := ⟨⟨by decide +kernel, by decide +kernel⟩, List.mem_of_getElem? (i := 506) (by decide +kernel), List.mem_of_getElem? (i := 687) (by decide +kernel), List.mem_of_getElem? (i := 688) (by decide +kernel)⟩
theorem lw_p25 : lw_okq (⟨"StepWalkModel", "isBad", "()Z"⟩, 38) := ⟨⟨by decide +kernel, by decide +kernel⟩, List.mem_of_getElem? (i := 506) (by decide +kernel), List.mem_of_getElem? (i := 691) (by decide +kernel), List.mem_of_getElem? (i := 692) (by decide +kernel)⟩
theorem lw_p26 : lw_okq (⟨"StepWalkModel", "note", "(II)V"⟩, 38) := ⟨⟨by decide +kernel, by decide +kernel⟩, List.mem_of_getElem? (i := 506) (by decide +kernel), List.mem_of_getElem? (i := 695) (by decide +kernel), List.mem_of_getElem? (i := 696) (by decide +kernel)⟩
theorem lw_p27 : lw_okq (⟨"StepWalkModel", "giveUp", "(I)V"⟩, 38) := ⟨⟨by decide +kernel, by decide +kernel⟩, List.mem_of_getElem? (i := 506) (by decide +kernel), List.mem_of_getElem? (i := 699) (by decide +kernel), List.mem_of_getElem? (i := 700) (by decide +kernel)⟩
theorem lw_p28 : lw_okq (⟨"StepWalkModel", "go", "(I)I"⟩, 38) := ⟨⟨by decide +kernel, by decide +kernel⟩, List.mem_of_getElem? (i := 506) (by decide +kernel), List.mem_of_getElem? (i := 703) (by decide +kernel), List.mem_of_getElem? (i := 704) (by decide +kernel)⟩
theorem lw_p29 : lw_okq (⟨"StepWalkModel", "begin", "(I)Z"⟩, 38) := ⟨⟨by decide +kernel, by decide +kernel⟩, List.mem_of_getElem? (i := 506) (by decide +kernel), List.mem_of_getElem? (i := 707) (by decide +kernel), List.mem_of_getElem? (i := 708) (by decide +kernel)⟩
theorem lw_p30 : lw_okq (⟨"StepWalkModel", "goRow", "(I)I"⟩, 38) := ⟨⟨by decide +kernel, by decide +kernel⟩, List.mem_of_getElem? (i := 506) (by decide +kernel), List.mem_of_getElem? (i := 711) (by decide +kernel), List.mem_of_getElem? (i := 712) (by decide +kernel)⟩
theorem lw_p31 : lw_okq (⟨"StepWalkModel", "goUntil", "(I)I"⟩, 38) := ⟨⟨by decide +kernel, by decide +kernel⟩, List.mem_of_getElem? (i := 506) (by decide +kernel), List.mem_of_getElem? (i := 715) (by decide +kernel), List.mem_of_getElem? (i := 716) (by decide +kernel)⟩
def lw_privs_2 : List (MethodName × Nat) := [(⟨"StepWalkModel", "areParts", "(IIII)Z"⟩, 38), (⟨"StepWalkModel", "isStatement", "(I)Z"⟩, 38), (⟨"StepWalkModel", "isNode", "(I)Z"⟩, 38), (⟨"StepWalkModel", "isValue", "(I)Z"⟩, 38), (⟨"StepWalkModel", "depth", "(I)I"⟩, 38), (⟨"StepWalkModel", "counted", "(I)I"⟩, 38), (⟨"StepWalkModel", "lay", "(I)I"⟩, 38), (⟨"StepWalkModel", "look", "(I)Z"⟩, 38), (⟨"StepWalkModel", "reckon", "(I)J"⟩, 38), (⟨"StepWalkModel", "isBad", "()Z"⟩, 38), (⟨"StepWalkModel", "note", "(II)V"⟩, 38), (⟨"StepWalkModel", "giveUp", "(I)V"⟩, 38), (⟨"StepWalkModel", "go", "(I)I"⟩, 38), (⟨"StepWalkModel", "begin", "(I)Z"⟩, 38), (⟨"StepWalkModel", "goRow", "(I)I"⟩, 38), (⟨"StepWalkModel", "goUntil", "(I)I"⟩, 38)]
theorem lw_r2 : ∀ q ∈ lw_privs_2, lw_okq q := List.forall_mem_cons.mpr ⟨lw_p16, List.forall_mem_cons.mpr ⟨lw_p17, List.forall_mem_cons.mpr ⟨lw_p18, List.forall_mem_cons.mpr ⟨lw_p19, List.forall_mem_cons.mpr ⟨lw_p20, List.forall_mem_cons.mpr ⟨lw_p21, List.forall_mem_cons.mpr ⟨lw_p22, List.forall_mem_cons.mpr ⟨lw_p23, List.forall_mem_cons.mpr ⟨lw_p24, List.forall_mem_cons.mpr ⟨lw_p25, List.forall_mem_cons.mpr ⟨lw_p26, List.forall_mem_cons.mpr ⟨lw_p27, List.forall_mem_cons.mpr ⟨lw_p28, List.forall_mem_cons.mpr ⟨lw_p29, List.forall_mem_cons.mpr ⟨lw_p30, List.forall_mem_cons.mpr ⟨lw_p31, fun _ h => absurd h List.not_mem_nil⟩⟩⟩⟩⟩⟩⟩⟩⟩⟩⟩⟩⟩⟩⟩⟩
theorem lw_p32 : lw_okq (⟨"StepWalkModel", "goBoth", "(I)I"⟩, 38) := ⟨⟨by decide +kernel, by decide +kernel⟩, List.mem_of_getElem? (i := 506) (by decide +kernel), List.mem_of_getElem? (i := 719) (by decide +kernel), List.mem_of_getElem? (i := 720) (by decide +kernel)⟩
theorem lw_p33 : lw_okq (⟨"StepWalkModel", "goRepeat", "(I)I"⟩, 38) := ⟨⟨by decide +kernel, by decide +kernel⟩, List.mem_of_getElem? (i := 506) (by decide +kernel), List.mem_of_getElem? (i := 723) (by decide +kernel), List.mem_of_getElem? (i := 724) (by decide +kernel)⟩
theorem lw_p34 : lw_okq (⟨"StepWalkModel", "goRamp", "(I)I"⟩, 38) := ⟨⟨by decide +kernel, by decide +kernel⟩, List.mem_of_getElem? (i := 506) (by decide +kernel), List.mem_of_getElem? (i := 727) (by decide +kernel), List.mem_of_getElem? (i := 728) (by decide +kernel)⟩
theorem lw_p35 : lw_okq (⟨"StepWalkModel", "goClosing", "(I)I"⟩, 38) := ⟨⟨by decide +kernel, by decide +kernel⟩, List.mem_of_getElem? (i := 506) (by decide +kernel), List.mem_of_getElem? (i := 731) (by decide +kernel), List.mem_of_getElem? (i := 732) (by decide +kernel)⟩
theorem lw_p36 : lw_okq (⟨"StepWalkModel", "close", "(I)V"⟩, 38) := ⟨⟨by decide +kernel, by decide +kernel⟩, List.mem_of_getElem? (i := 506) (by decide +kernel), List.mem_of_getElem? (i := 735) (by decide +kernel), List.mem_of_getElem? (i := 736) (by decide +kernel)⟩
theorem lw_p37 : lw_okq (⟨"StepWalkModel", "isOpen", "()Z"⟩, 38) := ⟨⟨by decide +kernel, by decide +kernel⟩, List.mem_of_getElem? (i := 506) (by decide +kernel), List.mem_of_getElem? (i := 747) (by decide +kernel), List.mem_of_getElem? (i := 748) (by decide +kernel)⟩
theorem lw_p38 : lw_okq (⟨"StepWalkModel", "still", "(IZ)I"⟩, 38) := ⟨⟨by decide +kernel, by decide +kernel⟩, List.mem_of_getElem? (i := 506) (by decide +kernel), List.mem_of_getElem? (i := 751) (by decide +kernel), List.mem_of_getElem? (i := 752) (by decide +kernel)⟩
def lw_privs_3 : List (MethodName × Nat) := [(⟨"StepWalkModel", "goBoth", "(I)I"⟩, 38), (⟨"StepWalkModel", "goRepeat", "(I)I"⟩, 38), (⟨"StepWalkModel", "goRamp", "(I)I"⟩, 38), (⟨"StepWalkModel", "goClosing", "(I)I"⟩, 38), (⟨"StepWalkModel", "close", "(I)V"⟩, 38), (⟨"StepWalkModel", "isOpen", "()Z"⟩, 38), (⟨"StepWalkModel", "still", "(IZ)I"⟩, 38)]
theorem lw_r3 : ∀ q ∈ lw_privs_3, lw_okq q := List.forall_mem_cons.mpr ⟨lw_p32, List.forall_mem_cons.mpr ⟨lw_p33, List.forall_mem_cons.mpr ⟨lw_p34, List.forall_mem_cons.mpr ⟨lw_p35, List.forall_mem_cons.mpr ⟨lw_p36, List.forall_mem_cons.mpr ⟨lw_p37, List.forall_mem_cons.mpr ⟨lw_p38, fun _ h => absurd h List.not_mem_nil⟩⟩⟩⟩⟩⟩⟩
def lw_privs : List (MethodName × Nat) := lw_privs_1 ++ (lw_privs_2 ++ (lw_privs_3))
def lw_tbl : List Cond := k2_sels lw_privs ++ tables_1
theorem lw_privs_ok : ∀ q ∈ lw_privs, lw_okq q := by
  show ∀ q ∈ lw_privs_1 ++ (lw_privs_2 ++ (lw_privs_3)), lw_okq q
  exact List.forall_mem_append.mpr ⟨lw_r1, List.forall_mem_append.mpr ⟨lw_r2, lw_r3⟩⟩
end
section
/-! TABLES OF THE PURE MACHINE, written by program (wip/whole/gen.py) out of the claim -/
def zT0 : u_T := fun k => match k with
  | 0 => ("StepWalk$Log", "alarmSeconds", "[I", true)
  | 1 => ("StepWalk$Log", "alarmNodes", "[I", true)
  | 2 => ("StepWalk$Log", "alarmKinds", "[I", true)
  | 3 => ("StepWalk$Log", "closedNodes", "[I", true)
  | 4 => ("StepWalk$Log", "alarms", "I", false)
  | _ => ("StepWalk$Log", "closings", "I", false)
def zt0 : Nat → FieldType := fun k => match k with
  | 0 => .array (.int)
  | 1 => .array (.int)
  | 2 => .array (.int)
  | 3 => .array (.int)
  | 4 => .int
  | _ => .int
def zT1 : u_T := fun k => match k with
  | 0 => ("StepWalk$Part", "what", "I", true)
  | 1 => ("StepWalk$Part", "number", "I", false)
  | 2 => ("StepWalk$Part", "place", "I", false)
  | 3 => ("StepWalk$Part", "v", "J", false)
  | 4 => ("StepWalk$Part", "x", "LStepWalk$Part;", false)
  | 5 => ("StepWalk$Part", "y", "LStepWalk$Part;", false)
  | 6 => ("StepWalk$Part", "first", "LStepWalk$Part;", false)
  | 7 => ("StepWalk$Part", "second", "LStepWalk$Part;", false)
  | 8 => ("StepWalk$Part", "depth", "I", false)
  | 9 => ("StepWalk$Part", "count", "J", false)
  | _ => ("StepWalk$Part", "fitsClosing", "Z", false)
def zt1 : Nat → FieldType := fun k => match k with
  | 0 => .int
  | 1 => .int
  | 2 => .int
  | 3 => .long
  | 4 => .object "StepWalk$Part"
  | 5 => .object "StepWalk$Part"
  | 6 => .object "StepWalk$Part"
  | 7 => .object "StepWalk$Part"
  | 8 => .int
  | 9 => .long
  | _ => .boolean
def zT2 : u_T := fun k => match k with
  | 0 => ("StepWalk$Program", "parts", "[LStepWalk$Part;", true)
  | _ => ("StepWalk$Program", "size", "I", false)
def zt2 : Nat → FieldType := fun k => match k with
  | 0 => .array (.object "StepWalk$Part")
  | _ => .int
def zT3 : u_T := fun k => match k with
  | 0 => ("StepWalk$Spot", "what", "I", false)
  | 1 => ("StepWalk$Spot", "number", "I", false)
  | 2 => ("StepWalk$Spot", "place", "I", false)
  | 3 => ("StepWalk$Spot", "x", "LStepWalk$Part;", false)
  | 4 => ("StepWalk$Spot", "y", "LStepWalk$Part;", false)
  | 5 => ("StepWalk$Spot", "first", "LStepWalk$Spot;", false)
  | 6 => ("StepWalk$Spot", "second", "LStepWalk$Spot;", false)
  | 7 => ("StepWalk$Spot", "stage", "I", false)
  | 8 => ("StepWalk$Spot", "since", "I", false)
  | 9 => ("StepWalk$Spot", "gotX", "J", false)
  | 10 => ("StepWalk$Spot", "gotY", "J", false)
  | 11 => ("StepWalk$Spot", "from", "J", false)
  | _ => ("StepWalk$Spot", "answered", "Z", false)
def zt3 : Nat → FieldType := fun k => match k with
  | 0 => .int
  | 1 => .int
  | 2 => .int
  | 3 => .object "StepWalk$Part"
  | 4 => .object "StepWalk$Part"
  | 5 => .object "StepWalk$Spot"
  | 6 => .object "StepWalk$Spot"
  | 7 => .int
  | 8 => .int
  | 9 => .long
  | 10 => .long
  | 11 => .long
  | _ => .boolean
def zT4 : u_T := fun k => match k with
  | 0 => ("StepWalk$Walk", "world", "LStepWalk$World;", true)
  | 1 => ("StepWalk$Walk", "log", "LStepWalk$Log;", true)
  | 2 => ("StepWalk$Walk", "spots", "[LStepWalk$Spot;", true)
  | 3 => ("StepWalk$Walk", "used", "I", false)
  | 4 => ("StepWalk$Walk", "root", "LStepWalk$Spot;", false)
  | 5 => ("StepWalk$Walk", "state", "I", false)
  | 6 => ("StepWalk$Walk", "second", "I", false)
  | 7 => ("StepWalk$Walk", "begun", "I", false)
  | 8 => ("StepWalk$Walk", "cut", "Z", false)
  | _ => ("StepWalk$Walk", "givingUp", "Z", false)
def zt4 : Nat → FieldType := fun k => match k with
  | 0 => .object "StepWalk$World"
  | 1 => .object "StepWalk$Log"
  | 2 => .array (.object "StepWalk$Spot")
  | 3 => .int
  | 4 => .object "StepWalk$Spot"
  | 5 => .int
  | 6 => .int
  | 7 => .int
  | 8 => .boolean
  | _ => .boolean
def zT5 : u_T := fun k => match k with
  | 0 => ("StepWalk$World", "signals", "[J", true)
  | 1 => ("StepWalk$World", "names", "[J", true)
  | 2 => ("StepWalk$World", "outputs", "[J", true)
  | 3 => ("StepWalk$World", "safes", "[J", true)
  | _ => ("StepWalk$World", "safeTold", "[Z", true)
def zt5 : Nat → FieldType := fun k => match k with
  | 0 => .array (.long)
  | 1 => .array (.long)
  | 2 => .array (.long)
  | 3 => .array (.long)
  | _ => .array (.boolean)
def zT6 : u_T := fun k => match k with
  | 0 => ("StepWalk", "program", "LStepWalk$Program;", true)
  | _ => ("StepWalk", "walk", "LStepWalk$Walk;", true)
def zt6 : Nat → FieldType := fun k => match k with
  | 0 => .object "StepWalk$Program"
  | _ => .object "StepWalk$Walk"
def zT7 : u_T := fun k => match k with
  | 0 => ("StepWalkModel", "nodes", "I", false)
  | 1 => ("StepWalkModel", "whats", "[I", true)
  | 2 => ("StepWalkModel", "as", "[I", true)
  | 3 => ("StepWalkModel", "bs", "[I", true)
  | 4 => ("StepWalkModel", "cs", "[I", true)
  | 5 => ("StepWalkModel", "numbers", "[J", true)
  | 6 => ("StepWalkModel", "depths", "[I", true)
  | 7 => ("StepWalkModel", "sizes", "[I", true)
  | 8 => ("StepWalkModel", "plain", "[Z", true)
  | 9 => ("StepWalkModel", "places", "I", false)
  | 10 => ("StepWalkModel", "of", "[I", true)
  | 11 => ("StepWalkModel", "firsts", "[I", true)
  | 12 => ("StepWalkModel", "seconds", "[I", true)
  | 13 => ("StepWalkModel", "begun", "[Z", true)
  | 14 => ("StepWalkModel", "phases", "[I", true)
  | 15 => ("StepWalkModel", "since", "[J", true)
  | 16 => ("StepWalkModel", "many", "[J", true)
  | 17 => ("StepWalkModel", "goals", "[J", true)
  | 18 => ("StepWalkModel", "starts", "[J", true)
  | 19 => ("StepWalkModel", "signals", "[J", true)
  | 20 => ("StepWalkModel", "names", "[J", true)
  | 21 => ("StepWalkModel", "outputs", "[J", true)
  | 22 => ("StepWalkModel", "safes", "[J", true)
  | 23 => ("StepWalkModel", "hasSafe", "[Z", true)
  | 24 => ("StepWalkModel", "runs", "Z", false)
  | 25 => ("StepWalkModel", "state", "I", false)
  | 26 => ("StepWalkModel", "now", "J", false)
  | 27 => ("StepWalkModel", "begins", "I", false)
  | 28 => ("StepWalkModel", "quiet", "Z", false)
  | 29 => ("StepWalkModel", "bad", "I", false)
  | 30 => ("StepWalkModel", "alarms", "I", false)
  | 31 => ("StepWalkModel", "alarmSeconds", "[I", true)
  | 32 => ("StepWalkModel", "alarmNodes", "[I", true)
  | 33 => ("StepWalkModel", "alarmKinds", "[I", true)
  | 34 => ("StepWalkModel", "closings", "I", false)
  | 35 => ("StepWalkModel", "closedNodes", "[I", true)
  | 36 => ("StepWalkModel", "left", "I", false)
  | _ => ("StepWalkModel", "sums", "[I", true)
def zt7 : Nat → FieldType := fun k => match k with
  | 0 => .int
  | 1 => .array (.int)
  | 2 => .array (.int)
  | 3 => .array (.int)
  | 4 => .array (.int)
  | 5 => .array (.long)
  | 6 => .array (.int)
  | 7 => .array (.int)
  | 8 => .array (.boolean)
  | 9 => .int
  | 10 => .array (.int)
  | 11 => .array (.int)
  | 12 => .array (.int)
  | 13 => .array (.boolean)
  | 14 => .array (.int)
  | 15 => .array (.long)
  | 16 => .array (.long)
  | 17 => .array (.long)
  | 18 => .array (.long)
  | 19 => .array (.long)
  | 20 => .array (.long)
  | 21 => .array (.long)
  | 22 => .array (.long)
  | 23 => .array (.boolean)
  | 24 => .boolean
  | 25 => .int
  | 26 => .long
  | 27 => .int
  | 28 => .boolean
  | 29 => .int
  | 30 => .int
  | 31 => .array (.int)
  | 32 => .array (.int)
  | 33 => .array (.int)
  | 34 => .int
  | 35 => .array (.int)
  | 36 => .int
  | _ => .array (.int)
abbrev vwCl : List vw_C := [("StepWalk$Log", zT0, 6), ("StepWalk$Part", zT1, 11), ("StepWalk$Program", zT2, 2), ("StepWalk$Spot", zT3, 13), ("StepWalk$Walk", zT4, 10), ("StepWalk$World", zT5, 5), ("StepWalk", zT6, 2), ("StepWalkModel", zT7, 38)]
def zFT (ci k : Nat) : FieldType := match ci with
  | 0 => zt0 k
  | 1 => zt1 k
  | 2 => zt2 k
  | 3 => zt3 k
  | 4 => zt4 k
  | 5 => zt5 k
  | 6 => zt6 k
  | _ => zt7 k
def zFin (ci k : Nat) : Bool := match ci with
  | 0 => (zT0 k).2.2.2
  | 1 => (zT1 k).2.2.2
  | 2 => (zT2 k).2.2.2
  | 3 => (zT3 k).2.2.2
  | 4 => (zT4 k).2.2.2
  | 5 => (zT5 k).2.2.2
  | 6 => (zT6 k).2.2.2
  | _ => (zT7 k).2.2.2
def zN (ci : Nat) : Nat := match ci with
  | 0 => 6
  | 1 => 11
  | 2 => 2
  | 3 => 13
  | 4 => 10
  | 5 => 5
  | 6 => 2
  | _ => 38
def zBl (ci k : Nat) : Value := defaultValue (zFT ci k)
def zON (oc : Nat) : String := match oc with
  | 0 => "StepWalk$Log"
  | 1 => "StepWalk$Part"
  | 2 => "StepWalk$Program"
  | 3 => "StepWalk$Spot"
  | 4 => "StepWalk$Walk"
  | 5 => "StepWalk$World"
  | 6 => "StepWalk"
  | 7 => "StepWalkModel"
  | 8 => "StepWalkLaw"
  | 9 => "java/lang/Math"
  | 10 => "java/util/Arrays"
  | _ => "java/lang/Object"
def zNT : Nat := 5
def zAK (k : Nat) : FieldType := match k with
  | 0 => .int
  | 1 => .long
  | 2 => .boolean
  | 3 => .object "StepWalk$Part"
  | _ => .object "StepWalk$Spot"
def zAc (k : Nat) : Option Nat := match k with
  | 3 => some 1
  | 4 => some 3
  | _ => none
def zNA : Jvm.ClassFile.ArrayType → Option Nat
  | .int => some 0
  | .long => some 1
  | .boolean => some 2
  | _ => none
def zLaw : Nat := 109
def zY (k : Nat) : MethodName := match k with
  | 0 => ⟨"java/lang/Object", "<init>", "()V"⟩
  | 1 => ⟨"StepWalk", "<init>", "()V"⟩
  | 2 => ⟨"StepWalk$Program", "<init>", "()V"⟩
  | 3 => ⟨"StepWalk$Walk", "<init>", "()V"⟩
  | 4 => ⟨"StepWalk$World", "<init>", "()V"⟩
  | 5 => ⟨"StepWalk$Log", "<init>", "()V"⟩
  | 6 => ⟨"StepWalk", "leaf", "(IJ)I"⟩
  | 7 => ⟨"StepWalk$Program", "addLeaf", "(IJ)I"⟩
  | 8 => ⟨"StepWalk$Part", "<init>", "(I)V"⟩
  | 9 => ⟨"StepWalk$Program", "add", "(LStepWalk$Part;)I"⟩
  | 10 => ⟨"StepWalk", "node", "(IIII)I"⟩
  | 11 => ⟨"StepWalk$Program", "addNode", "(IIII)I"⟩
  | 12 => ⟨"StepWalk$Program", "takeParts", "(LStepWalk$Part;III)Z"⟩
  | 13 => ⟨"StepWalk$Program", "partAt", "(I)LStepWalk$Part;"⟩
  | 14 => ⟨"StepWalk$Part", "takeExpression", "(LStepWalk$Part;)Z"⟩
  | 15 => ⟨"StepWalk$Part", "isStatement", "()Z"⟩
  | 16 => ⟨"java/lang/Math", "max", "(II)I"⟩
  | 17 => ⟨"StepWalk$Part", "takeStatement", "(LStepWalk$Part;)Z"⟩
  | 18 => ⟨"StepWalk$Part", "takePlace", "(I)Z"⟩
  | 19 => ⟨"StepWalk$Part", "takeClosing", "(LStepWalk$Part;)Z"⟩
  | 20 => ⟨"StepWalk", "signal", "(IJ)Z"⟩
  | 21 => ⟨"StepWalk", "put", "([JIJ)Z"⟩
  | 22 => ⟨"StepWalk", "start", "(I)I"⟩
  | 23 => ⟨"StepWalk$Walk", "beginRun", "(LStepWalk$Part;)V"⟩
  | 24 => ⟨"StepWalk$World", "clearForRun", "()V"⟩
  | 25 => ⟨"java/util/Arrays", "fill", "([JJ)V"⟩
  | 26 => ⟨"StepWalk$Log", "clear", "()V"⟩
  | 27 => ⟨"StepWalk$Walk", "layOut", "(LStepWalk$Part;)LStepWalk$Spot;"⟩
  | 28 => ⟨"StepWalk$Spot", "<init>", "()V"⟩
  | 29 => ⟨"StepWalk$Spot", "lay", "(LStepWalk$Part;)V"⟩
  | 30 => ⟨"StepWalk", "tick", "(I)I"⟩
  | 31 => ⟨"StepWalk$Walk", "doSecond", "()V"⟩
  | 32 => ⟨"StepWalk$Walk", "lookAtLimits", "()V"⟩
  | 33 => ⟨"StepWalk$Walk", "reckon", "(LStepWalk$Part;)J"⟩
  | 34 => ⟨"StepWalk", "get", "([JI)J"⟩
  | 35 => ⟨"StepWalk$Log", "addAlarm", "(III)V"⟩
  | 36 => ⟨"StepWalk$Walk", "giveUp", "(LStepWalk$Spot;)V"⟩
  | 37 => ⟨"StepWalk$Spot", "isOpen", "()Z"⟩
  | 38 => ⟨"StepWalk$Walk", "goOn", "(LStepWalk$Spot;)Z"⟩
  | 39 => ⟨"StepWalk$Walk", "begin", "(LStepWalk$Spot;)Z"⟩
  | 40 => ⟨"StepWalk$Spot", "open", "(IJJ)V"⟩
  | 41 => ⟨"StepWalk$Spot", "renew", "(LStepWalk$Spot;)V"⟩
  | 42 => ⟨"StepWalk$Walk", "takeEffect", "(LStepWalk$Spot;)V"⟩
  | 43 => ⟨"StepWalk$Walk", "advance", "(LStepWalk$Spot;)Z"⟩
  | 44 => ⟨"StepWalk$Walk", "moveRamp", "(LStepWalk$Spot;)Z"⟩
  | 45 => ⟨"java/lang/Math", "floorDiv", "(JJ)J"⟩
  | 46 => ⟨"StepWalk$Walk", "goOnInOrder", "(LStepWalk$Spot;)Z"⟩
  | 47 => ⟨"StepWalk$Log", "addClosed", "(I)V"⟩
  | 48 => ⟨"StepWalk$Walk", "goOnSideBySide", "(LStepWalk$Spot;)Z"⟩
  | 49 => ⟨"StepWalk$Walk", "goOnRepeating", "(LStepWalk$Spot;)Z"⟩
  | 50 => ⟨"StepWalk", "output", "(I)J"⟩
  | 51 => ⟨"StepWalk$World", "hasSafe", "(I)Z"⟩
  | 52 => ⟨"StepWalk", "step", "(I)I"⟩
  | 53 => ⟨"StepWalk$Walk", "nodeStandingStill", "(I)I"⟩
  | 54 => ⟨"StepWalk$Walk", "isLive", "()Z"⟩
  | 55 => ⟨"StepWalk$Spot", "standsStill", "()Z"⟩
  | 56 => ⟨"StepWalk", "alarm", "(II)I"⟩
  | 57 => ⟨"StepWalk$Log", "alarmAt", "(II)I"⟩
  | 58 => ⟨"StepWalk", "answer", "(J)Z"⟩
  | 59 => ⟨"StepWalk$Walk", "answerFirstAsk", "(J)Z"⟩
  | 60 => ⟨"StepWalk", "hold", "(Z)Z"⟩
  | 61 => ⟨"StepWalk$Walk", "setHeld", "(Z)Z"⟩
  | 62 => ⟨"StepWalk", "stop", "()I"⟩
  | 63 => ⟨"StepWalk$Walk", "giveUpAll", "()I"⟩
  | 64 => ⟨"StepWalk", "closed", "(I)I"⟩
  | 65 => ⟨"StepWalk$Log", "closedAt", "(I)I"⟩
  | 66 => ⟨"StepWalk", "value", "(I)J"⟩
  | 67 => ⟨"StepWalk", "safe", "(IJ)Z"⟩
  | 68 => ⟨"StepWalk$World", "tellSafe", "(IJ)Z"⟩
  | 69 => ⟨"StepWalkModel", "<init>", "()V"⟩
  | 70 => ⟨"StepWalkModel", "leaf", "(IJ)I"⟩
  | 71 => ⟨"StepWalkModel", "put", "(IIIIJII)I"⟩
  | 72 => ⟨"StepWalkModel", "node", "(IIII)I"⟩
  | 73 => ⟨"StepWalkModel", "areParts", "(IIII)Z"⟩
  | 74 => ⟨"StepWalkModel", "isStatement", "(I)Z"⟩
  | 75 => ⟨"StepWalkModel", "isNode", "(I)Z"⟩
  | 76 => ⟨"StepWalkModel", "isPlace", "(I)Z"⟩
  | 77 => ⟨"StepWalkModel", "isValue", "(I)Z"⟩
  | 78 => ⟨"StepWalkModel", "depth", "(I)I"⟩
  | 79 => ⟨"StepWalkModel", "signal", "(IJ)Z"⟩
  | 80 => ⟨"StepWalkModel", "start", "(I)I"⟩
  | 81 => ⟨"StepWalkModel", "counted", "(I)I"⟩
  | 82 => ⟨"StepWalkModel", "lay", "(I)I"⟩
  | 83 => ⟨"StepWalkModel", "tick", "(I)I"⟩
  | 84 => ⟨"StepWalkModel", "look", "(I)Z"⟩
  | 85 => ⟨"StepWalkModel", "reckon", "(I)J"⟩
  | 86 => ⟨"StepWalkModel", "isBad", "()Z"⟩
  | 87 => ⟨"StepWalkModel", "note", "(II)V"⟩
  | 88 => ⟨"StepWalkModel", "giveUp", "(I)V"⟩
  | 89 => ⟨"StepWalkModel", "go", "(I)I"⟩
  | 90 => ⟨"StepWalkModel", "begin", "(I)Z"⟩
  | 91 => ⟨"StepWalkModel", "goRow", "(I)I"⟩
  | 92 => ⟨"StepWalkModel", "goUntil", "(I)I"⟩
  | 93 => ⟨"StepWalkModel", "goBoth", "(I)I"⟩
  | 94 => ⟨"StepWalkModel", "goRepeat", "(I)I"⟩
  | 95 => ⟨"StepWalkModel", "goRamp", "(I)I"⟩
  | 96 => ⟨"StepWalkModel", "goClosing", "(I)I"⟩
  | 97 => ⟨"StepWalkModel", "close", "(I)V"⟩
  | 98 => ⟨"StepWalkModel", "output", "(I)J"⟩
  | 99 => ⟨"StepWalkModel", "step", "(I)I"⟩
  | 100 => ⟨"StepWalkModel", "isOpen", "()Z"⟩
  | 101 => ⟨"StepWalkModel", "still", "(IZ)I"⟩
  | 102 => ⟨"StepWalkModel", "alarm", "(II)I"⟩
  | 103 => ⟨"StepWalkModel", "answer", "(J)Z"⟩
  | 104 => ⟨"StepWalkModel", "hold", "(Z)Z"⟩
  | 105 => ⟨"StepWalkModel", "stop", "()I"⟩
  | 106 => ⟨"StepWalkModel", "closed", "(I)I"⟩
  | 107 => ⟨"StepWalkModel", "value", "(I)J"⟩
  | 108 => ⟨"StepWalkModel", "safe", "(IJ)Z"⟩
  | _ => ⟨"StepWalkLaw", "law", "([I)Z"⟩
def zCode (k : Nat) : ByteArray := match k with
  | 0 => object_method_1_code
  | 1 => prog_1_method_1_code
  | 2 => prog_4_method_1_code
  | 3 => prog_6_method_1_code
  | 4 => prog_7_method_1_code
  | 5 => prog_2_method_1_code
  | 6 => prog_1_method_2_code
  | 7 => prog_4_method_3_code
  | 8 => prog_3_method_1_code
  | 9 => prog_4_method_5_code
  | 10 => prog_1_method_3_code
  | 11 => prog_4_method_4_code
  | 12 => prog_4_method_6_code
  | 13 => prog_4_method_2_code
  | 14 => prog_3_method_4_code
  | 15 => prog_3_method_2_code
  | 16 => prog_10_method_65_code
  | 17 => prog_3_method_5_code
  | 18 => prog_3_method_3_code
  | 19 => prog_3_method_6_code
  | 20 => prog_1_method_4_code
  | 21 => prog_1_method_17_code
  | 22 => prog_1_method_5_code
  | 23 => prog_6_method_2_code
  | 24 => prog_7_method_2_code
  | 25 => prog_11_method_101_code
  | 26 => prog_2_method_2_code
  | 27 => prog_6_method_3_code
  | 28 => prog_5_method_1_code
  | 29 => prog_5_method_2_code
  | 30 => prog_1_method_6_code
  | 31 => prog_6_method_4_code
  | 32 => prog_6_method_5_code
  | 33 => prog_6_method_15_code
  | 34 => prog_1_method_16_code
  | 35 => prog_2_method_3_code
  | 36 => prog_6_method_14_code
  | 37 => prog_5_method_4_code
  | 38 => prog_6_method_6_code
  | 39 => prog_6_method_7_code
  | 40 => prog_5_method_3_code
  | 41 => prog_5_method_6_code
  | 42 => prog_6_method_8_code
  | 43 => prog_6_method_9_code
  | 44 => prog_6_method_10_code
  | 45 => prog_10_method_49_code
  | 46 => prog_6_method_11_code
  | 47 => prog_2_method_4_code
  | 48 => prog_6_method_12_code
  | 49 => prog_6_method_13_code
  | 50 => prog_1_method_7_code
  | 51 => prog_7_method_3_code
  | 52 => prog_1_method_8_code
  | 53 => prog_6_method_17_code
  | 54 => prog_6_method_16_code
  | 55 => prog_5_method_5_code
  | 56 => prog_1_method_9_code
  | 57 => prog_2_method_5_code
  | 58 => prog_1_method_10_code
  | 59 => prog_6_method_18_code
  | 60 => prog_1_method_11_code
  | 61 => prog_6_method_19_code
  | 62 => prog_1_method_12_code
  | 63 => prog_6_method_20_code
  | 64 => prog_1_method_13_code
  | 65 => prog_2_method_6_code
  | 66 => prog_1_method_14_code
  | 67 => prog_1_method_15_code
  | 68 => prog_7_method_4_code
  | 69 => prog_9_method_1_code
  | 70 => prog_9_method_2_code
  | 71 => prog_9_method_3_code
  | 72 => prog_9_method_10_code
  | 73 => prog_9_method_9_code
  | 74 => prog_9_method_6_code
  | 75 => prog_9_method_4_code
  | 76 => prog_9_method_7_code
  | 77 => prog_9_method_5_code
  | 78 => prog_9_method_8_code
  | 79 => prog_9_method_11_code
  | 80 => prog_9_method_14_code
  | 81 => prog_9_method_13_code
  | 82 => prog_9_method_12_code
  | 83 => prog_9_method_29_code
  | 84 => prog_9_method_28_code
  | 85 => prog_9_method_15_code
  | 86 => prog_9_method_17_code
  | 87 => prog_9_method_16_code
  | 88 => prog_9_method_27_code
  | 89 => prog_9_method_19_code
  | 90 => prog_9_method_18_code
  | 91 => prog_9_method_20_code
  | 92 => prog_9_method_21_code
  | 93 => prog_9_method_22_code
  | 94 => prog_9_method_23_code
  | 95 => prog_9_method_24_code
  | 96 => prog_9_method_25_code
  | 97 => prog_9_method_26_code
  | 98 => prog_9_method_30_code
  | 99 => prog_9_method_33_code
  | 100 => prog_9_method_31_code
  | 101 => prog_9_method_32_code
  | 102 => prog_9_method_34_code
  | 103 => prog_9_method_35_code
  | 104 => prog_9_method_36_code
  | 105 => prog_9_method_37_code
  | 106 => prog_9_method_38_code
  | 107 => prog_9_method_39_code
  | 108 => prog_9_method_40_code
  | _ => code
def zML (k : Nat) : Nat := match k with
  | 0 => 1
  | 1 => 1
  | 2 => 1
  | 3 => 1
  | 4 => 1
  | 5 => 1
  | 6 => 4
  | 7 => 5
  | 8 => 2
  | 9 => 2
  | 10 => 5
  | 11 => 6
  | 12 => 5
  | 13 => 2
  | 14 => 2
  | 15 => 1
  | 16 => 2
  | 17 => 2
  | 18 => 2
  | 19 => 2
  | 20 => 4
  | 21 => 4
  | 22 => 3
  | 23 => 2
  | 24 => 1
  | 25 => 5
  | 26 => 1
  | 27 => 3
  | 28 => 1
  | 29 => 2
  | 30 => 3
  | 31 => 2
  | 32 => 3
  | 33 => 6
  | 34 => 2
  | 35 => 4
  | 36 => 2
  | 37 => 1
  | 38 => 2
  | 39 => 6
  | 40 => 6
  | 41 => 1
  | 42 => 2
  | 43 => 2
  | 44 => 6
  | 45 => 6
  | 46 => 2
  | 47 => 2
  | 48 => 4
  | 49 => 3
  | 50 => 2
  | 51 => 2
  | 52 => 2
  | 53 => 5
  | 54 => 1
  | 55 => 1
  | 56 => 3
  | 57 => 3
  | 58 => 3
  | 59 => 5
  | 60 => 2
  | 61 => 4
  | 62 => 1
  | 63 => 2
  | 64 => 2
  | 65 => 2
  | 66 => 2
  | 67 => 4
  | 68 => 4
  | 69 => 1
  | 70 => 4
  | 71 => 10
  | 72 => 13
  | 73 => 5
  | 74 => 2
  | 75 => 2
  | 76 => 1
  | 77 => 2
  | 78 => 2
  | 79 => 4
  | 80 => 5
  | 81 => 5
  | 82 => 5
  | 83 => 4
  | 84 => 4
  | 85 => 6
  | 86 => 1
  | 87 => 3
  | 88 => 4
  | 89 => 2
  | 90 => 10
  | 91 => 3
  | 92 => 4
  | 93 => 4
  | 94 => 3
  | 95 => 9
  | 96 => 3
  | 97 => 2
  | 98 => 2
  | 99 => 3
  | 100 => 1
  | 101 => 5
  | 102 => 3
  | 103 => 4
  | 104 => 2
  | 105 => 2
  | 106 => 2
  | 107 => 2
  | 108 => 4
  | _ => 4
def zRT (k : Nat) : Option FieldType := match k with
  | 0 => (Option.none : Option Jvm.ClassFile.FieldType)
  | 1 => (Option.none : Option Jvm.ClassFile.FieldType)
  | 2 => (Option.none : Option Jvm.ClassFile.FieldType)
  | 3 => (Option.none : Option Jvm.ClassFile.FieldType)
  | 4 => (Option.none : Option Jvm.ClassFile.FieldType)
  | 5 => (Option.none : Option Jvm.ClassFile.FieldType)
  | 6 => (Option.some Jvm.ClassFile.FieldType.int)
  | 7 => (Option.some Jvm.ClassFile.FieldType.int)
  | 8 => (Option.none : Option Jvm.ClassFile.FieldType)
  | 9 => (Option.some Jvm.ClassFile.FieldType.int)
  | 10 => (Option.some Jvm.ClassFile.FieldType.int)
  | 11 => (Option.some Jvm.ClassFile.FieldType.int)
  | 12 => (Option.some Jvm.ClassFile.FieldType.boolean)
  | 13 => (Option.some (Jvm.ClassFile.FieldType.object "StepWalk$Part"))
  | 14 => (Option.some Jvm.ClassFile.FieldType.boolean)
  | 15 => (Option.some Jvm.ClassFile.FieldType.boolean)
  | 16 => (Option.some Jvm.ClassFile.FieldType.int)
  | 17 => (Option.some Jvm.ClassFile.FieldType.boolean)
  | 18 => (Option.some Jvm.ClassFile.FieldType.boolean)
  | 19 => (Option.some Jvm.ClassFile.FieldType.boolean)
  | 20 => (Option.some Jvm.ClassFile.FieldType.boolean)
  | 21 => (Option.some Jvm.ClassFile.FieldType.boolean)
  | 22 => (Option.some Jvm.ClassFile.FieldType.int)
  | 23 => (Option.none : Option Jvm.ClassFile.FieldType)
  | 24 => (Option.none : Option Jvm.ClassFile.FieldType)
  | 25 => (Option.none : Option Jvm.ClassFile.FieldType)
  | 26 => (Option.none : Option Jvm.ClassFile.FieldType)
  | 27 => (Option.some (Jvm.ClassFile.FieldType.object "StepWalk$Spot"))
  | 28 => (Option.none : Option Jvm.ClassFile.FieldType)
  | 29 => (Option.none : Option Jvm.ClassFile.FieldType)
  | 30 => (Option.some Jvm.ClassFile.FieldType.int)
  | 31 => (Option.none : Option Jvm.ClassFile.FieldType)
  | 32 => (Option.none : Option Jvm.ClassFile.FieldType)
  | 33 => (Option.some Jvm.ClassFile.FieldType.long)
  | 34 => (Option.some Jvm.ClassFile.FieldType.long)
  | 35 => (Option.none : Option Jvm.ClassFile.FieldType)
  | 36 => (Option.none : Option Jvm.ClassFile.FieldType)
  | 37 => (Option.some Jvm.ClassFile.FieldType.boolean)
  | 38 => (Option.some Jvm.ClassFile.FieldType.boolean)
  | 39 => (Option.some Jvm.ClassFile.FieldType.boolean)
  | 40 => (Option.none : Option Jvm.ClassFile.FieldType)
  | 41 => (Option.none : Option Jvm.ClassFile.FieldType)
  | 42 => (Option.none : Option Jvm.ClassFile.FieldType)
  | 43 => (Option.some Jvm.ClassFile.FieldType.boolean)
  | 44 => (Option.some Jvm.ClassFile.FieldType.boolean)
  | 45 => (Option.some Jvm.ClassFile.FieldType.long)
  | 46 => (Option.some Jvm.ClassFile.FieldType.boolean)
  | 47 => (Option.none : Option Jvm.ClassFile.FieldType)
  | 48 => (Option.some Jvm.ClassFile.FieldType.boolean)
  | 49 => (Option.some Jvm.ClassFile.FieldType.boolean)
  | 50 => (Option.some Jvm.ClassFile.FieldType.long)
  | 51 => (Option.some Jvm.ClassFile.FieldType.boolean)
  | 52 => (Option.some Jvm.ClassFile.FieldType.int)
  | 53 => (Option.some Jvm.ClassFile.FieldType.int)
  | 54 => (Option.some Jvm.ClassFile.FieldType.boolean)
  | 55 => (Option.some Jvm.ClassFile.FieldType.boolean)
  | 56 => (Option.some Jvm.ClassFile.FieldType.int)
  | 57 => (Option.some Jvm.ClassFile.FieldType.int)
  | 58 => (Option.some Jvm.ClassFile.FieldType.boolean)
  | 59 => (Option.some Jvm.ClassFile.FieldType.boolean)
  | 60 => (Option.some Jvm.ClassFile.FieldType.boolean)
  | 61 => (Option.some Jvm.ClassFile.FieldType.boolean)
  | 62 => (Option.some Jvm.ClassFile.FieldType.int)
  | 63 => (Option.some Jvm.ClassFile.FieldType.int)
  | 64 => (Option.some Jvm.ClassFile.FieldType.int)
  | 65 => (Option.some Jvm.ClassFile.FieldType.int)
  | 66 => (Option.some Jvm.ClassFile.FieldType.long)
  | 67 => (Option.some Jvm.ClassFile.FieldType.boolean)
  | 68 => (Option.some Jvm.ClassFile.FieldType.boolean)
  | 69 => (Option.none : Option Jvm.ClassFile.FieldType)
  | 70 => (Option.some Jvm.ClassFile.FieldType.int)
  | 71 => (Option.some Jvm.ClassFile.FieldType.int)
  | 72 => (Option.some Jvm.ClassFile.FieldType.int)
  | 73 => (Option.some Jvm.ClassFile.FieldType.boolean)
  | 74 => (Option.some Jvm.ClassFile.FieldType.boolean)
  | 75 => (Option.some Jvm.ClassFile.FieldType.boolean)
  | 76 => (Option.some Jvm.ClassFile.FieldType.boolean)
  | 77 => (Option.some Jvm.ClassFile.FieldType.boolean)
  | 78 => (Option.some Jvm.ClassFile.FieldType.int)
  | 79 => (Option.some Jvm.ClassFile.FieldType.boolean)
  | 80 => (Option.some Jvm.ClassFile.FieldType.int)
  | 81 => (Option.some Jvm.ClassFile.FieldType.int)
  | 82 => (Option.some Jvm.ClassFile.FieldType.int)
  | 83 => (Option.some Jvm.ClassFile.FieldType.int)
  | 84 => (Option.some Jvm.ClassFile.FieldType.boolean)
  | 85 => (Option.some Jvm.ClassFile.FieldType.long)
  | 86 => (Option.some Jvm.ClassFile.FieldType.boolean)
  | 87 => (Option.none : Option Jvm.ClassFile.FieldType)
  | 88 => (Option.none : Option Jvm.ClassFile.FieldType)
  | 89 => (Option.some Jvm.ClassFile.FieldType.int)
  | 90 => (Option.some Jvm.ClassFile.FieldType.boolean)
  | 91 => (Option.some Jvm.ClassFile.FieldType.int)
  | 92 => (Option.some Jvm.ClassFile.FieldType.int)
  | 93 => (Option.some Jvm.ClassFile.FieldType.int)
  | 94 => (Option.some Jvm.ClassFile.FieldType.int)
  | 95 => (Option.some Jvm.ClassFile.FieldType.int)
  | 96 => (Option.some Jvm.ClassFile.FieldType.int)
  | 97 => (Option.none : Option Jvm.ClassFile.FieldType)
  | 98 => (Option.some Jvm.ClassFile.FieldType.long)
  | 99 => (Option.some Jvm.ClassFile.FieldType.int)
  | 100 => (Option.some Jvm.ClassFile.FieldType.boolean)
  | 101 => (Option.some Jvm.ClassFile.FieldType.int)
  | 102 => (Option.some Jvm.ClassFile.FieldType.int)
  | 103 => (Option.some Jvm.ClassFile.FieldType.boolean)
  | 104 => (Option.some Jvm.ClassFile.FieldType.boolean)
  | 105 => (Option.some Jvm.ClassFile.FieldType.int)
  | 106 => (Option.some Jvm.ClassFile.FieldType.int)
  | 107 => (Option.some Jvm.ClassFile.FieldType.long)
  | 108 => (Option.some Jvm.ClassFile.FieldType.boolean)
  | _ => some .boolean
def zOC (k : Nat) : Nat := match k with
  | 0 => 11
  | 1 => 6
  | 2 => 2
  | 3 => 4
  | 4 => 5
  | 5 => 0
  | 6 => 6
  | 7 => 2
  | 8 => 1
  | 9 => 2
  | 10 => 6
  | 11 => 2
  | 12 => 2
  | 13 => 2
  | 14 => 1
  | 15 => 1
  | 16 => 9
  | 17 => 1
  | 18 => 1
  | 19 => 1
  | 20 => 6
  | 21 => 6
  | 22 => 6
  | 23 => 4
  | 24 => 5
  | 25 => 10
  | 26 => 0
  | 27 => 4
  | 28 => 3
  | 29 => 3
  | 30 => 6
  | 31 => 4
  | 32 => 4
  | 33 => 4
  | 34 => 6
  | 35 => 0
  | 36 => 4
  | 37 => 3
  | 38 => 4
  | 39 => 4
  | 40 => 3
  | 41 => 3
  | 42 => 4
  | 43 => 4
  | 44 => 4
  | 45 => 9
  | 46 => 4
  | 47 => 0
  | 48 => 4
  | 49 => 4
  | 50 => 6
  | 51 => 5
  | 52 => 6
  | 53 => 4
  | 54 => 4
  | 55 => 3
  | 56 => 6
  | 57 => 0
  | 58 => 6
  | 59 => 4
  | 60 => 6
  | 61 => 4
  | 62 => 6
  | 63 => 4
  | 64 => 6
  | 65 => 0
  | 66 => 6
  | 67 => 6
  | 68 => 5
  | 69 => 7
  | 70 => 7
  | 71 => 7
  | 72 => 7
  | 73 => 7
  | 74 => 7
  | 75 => 7
  | 76 => 7
  | 77 => 7
  | 78 => 7
  | 79 => 7
  | 80 => 7
  | 81 => 7
  | 82 => 7
  | 83 => 7
  | 84 => 7
  | 85 => 7
  | 86 => 7
  | 87 => 7
  | 88 => 7
  | 89 => 7
  | 90 => 7
  | 91 => 7
  | 92 => 7
  | 93 => 7
  | 94 => 7
  | 95 => 7
  | 96 => 7
  | 97 => 7
  | 98 => 7
  | 99 => 7
  | 100 => 7
  | 101 => 7
  | 102 => 7
  | 103 => 7
  | 104 => 7
  | 105 => 7
  | 106 => 7
  | 107 => 7
  | 108 => 7
  | _ => 8
def zRC (k : Nat) : Option Nat := if zOC k < 8 then some (zOC k) else none
def zKK : Nat := 32
/-- a field: whose pool, its index, the class, the field, the place of its word -/
def zFldL : List (Nat × Nat × Nat × Nat × Nat) := [(2, 11, 2, 0, 27), (2, 17, 2, 1, 28), (5, 9, 5, 0, 46), (6, 35, 5, 0, 47), (4, 196, 5, 0, 48), (5, 15, 5, 1, 49), (4, 144, 5, 1, 50), (6, 115, 5, 1, 51), (5, 18, 5, 2, 52), (6, 83, 5, 2, 53), (4, 129, 5, 2, 54), (5, 21, 5, 3, 55), (6, 76, 5, 3, 56), (5, 24, 5, 4, 57), (0, 9, 0, 0, 77), (0, 15, 0, 1, 78), (0, 18, 0, 2, 79), (0, 21, 0, 3, 80), (0, 24, 0, 4, 81), (0, 28, 0, 5, 82), (4, 209, 0, 5, 83), (4, 12, 4, 0, 100), (6, 31, 4, 0, 101), (4, 21, 4, 1, 102), (6, 90, 4, 1, 103), (4, 27, 4, 2, 104), (4, 44, 4, 3, 105), (4, 51, 4, 4, 106), (4, 31, 4, 5, 107), (6, 65, 4, 5, 108), (4, 41, 4, 6, 109), (4, 72, 4, 7, 110), (4, 82, 4, 8, 111), (4, 116, 4, 9, 112), (6, 10, 6, 0, 134), (6, 19, 6, 1, 135), (1, 19, 1, 0, 154), (3, 9, 1, 0, 155), (2, 28, 1, 0, 156), (4, 192, 1, 0, 157), (3, 18, 1, 1, 158), (2, 56, 1, 1, 159), (4, 202, 1, 1, 160), (3, 22, 1, 2, 161), (1, 26, 1, 2, 162), (2, 33, 1, 2, 163), (4, 199, 1, 2, 164), (2, 24, 1, 3, 165), (4, 193, 1, 3, 166), (3, 26, 1, 4, 167), (1, 33, 1, 4, 168), (4, 200, 1, 4, 169), (3, 31, 1, 5, 170), (1, 37, 1, 5, 171), (4, 201, 1, 5, 172), (4, 60, 1, 6, 173), (1, 46, 1, 6, 174), (4, 68, 1, 7, 175), (1, 49, 1, 7, 176), (1, 9, 1, 8, 177), (2, 44, 1, 8, 178), (1, 15, 1, 9, 179), (2, 51, 1, 9, 180), (6, 55, 1, 9, 181), (1, 22, 1, 10, 182), (3, 15, 3, 0, 291), (4, 86, 3, 0, 292), (3, 21, 3, 1, 293), (4, 99, 3, 1, 294), (3, 25, 3, 2, 295), (4, 133, 3, 2, 296), (3, 30, 3, 3, 297), (4, 92, 3, 3, 298), (3, 34, 3, 4, 299), (4, 119, 3, 4, 300), (3, 52, 3, 5, 301), (4, 66, 3, 5, 302), (3, 60, 3, 6, 303), (4, 70, 3, 6, 304), (3, 35, 3, 7, 305), (4, 89, 3, 7, 306), (3, 38, 3, 8, 307), (4, 154, 3, 8, 308), (3, 41, 3, 9, 309), (4, 136, 3, 9, 310), (3, 45, 3, 10, 311), (4, 172, 3, 10, 312), (4, 151, 3, 11, 313), (3, 48, 3, 12, 314), (4, 160, 3, 12, 315), (7, 99, 7, 0, 511), (7, 9, 7, 1, 512), (7, 13, 7, 2, 513), (7, 16, 7, 3, 514), (7, 19, 7, 4, 515), (7, 22, 7, 5, 516), (7, 26, 7, 6, 517), (7, 29, 7, 7, 518), (7, 32, 7, 8, 519), (7, 127, 7, 9, 520), (7, 36, 7, 10, 521), (7, 39, 7, 11, 522), (7, 42, 7, 12, 523), (7, 45, 7, 13, 524), (7, 48, 7, 14, 525), (7, 51, 7, 15, 526), (7, 54, 7, 16, 527), (7, 57, 7, 17, 528), (7, 60, 7, 18, 529), (7, 63, 7, 19, 530), (7, 66, 7, 20, 531), (7, 69, 7, 21, 532), (7, 72, 7, 22, 533), (7, 75, 7, 23, 534), (7, 136, 7, 24, 535), (7, 140, 7, 25, 536), (7, 143, 7, 26, 537), (7, 164, 7, 27, 538), (7, 153, 7, 28, 539), (7, 78, 7, 29, 540), (7, 147, 7, 30, 541), (7, 82, 7, 31, 542), (7, 85, 7, 32, 543), (7, 88, 7, 33, 544), (7, 150, 7, 34, 545), (7, 91, 7, 35, 546), (7, 209, 7, 36, 547), (7, 94, 7, 37, 548)]
def zFld (oc idx : Nat) : Option (Nat × Nat) := (zFldL.find? (fun q => q.1 == oc && q.2.1 == idx)).map fun q => (q.2.2.1, q.2.2.2.1)
def zNewL : List (Nat × Nat × Nat × Nat × Nat × Nat) := [(8, 7, 6, 11, 12, 1), (6, 7, 2, 19, 20, 2), (2, 9, 1, 25, 149, 7), (6, 16, 4, 34, 35, 3), (4, 9, 5, 40, 41, 4), (4, 18, 0, 71, 72, 5), (4, 25, 3, 98, 286, 10), (8, 10, 7, 505, 506, 6)]
def zNew (oc idx : Nat) : Option Nat := (zNewL.find? (fun q => q.1 == oc && q.2.1 == idx)).map fun q => q.2.2.1
def zANL : List (Nat × Nat × Nat × Nat × Nat) := [(2, 9, 3, 25, 26), (4, 25, 4, 98, 99)]
def zAN (oc idx : Nat) : Option Nat := (zANL.find? (fun q => q.1 == oc && q.2.1 == idx)).map fun q => q.2.2.1
def zLd (_ _ : Nat) : Option Int32 := none
def zLd2L : List (Nat × Nat × Int64 × Nat) := [(2, 31, 16, 206), (2, 54, 200, 252), (6, 59, 500, 266), (7, 97, 15, 630), (8, 13, 4294967295, 782)]
def zLd2 (oc idx : Nat) : Option Int64 := (zLd2L.find? (fun q => q.1 == oc && q.2.1 == idx)).map fun q => q.2.2.1
/-- a call: whose pool, its index, the method, how many arguments, how (0 virtual, 1 a constructor, 2 static, 3 of Object), the place of its word, whether of the nest -/
def zMtL : List (Nat × Nat × Nat × Nat × Nat × Nat × Nat) := [(8, 9, 1, 0, 1, 13, 0), (6, 1, 0, 0, 3, 16, 0), (2, 3, 0, 0, 3, 24, 0), (4, 3, 0, 0, 3, 39, 0), (5, 3, 0, 0, 3, 45, 0), (0, 3, 0, 0, 3, 76, 0), (8, 15, 6, 2, 0, 141, 0), (6, 23, 7, 2, 0, 145, 0), (2, 21, 8, 1, 1, 150, 0), (1, 3, 0, 0, 3, 153, 0), (2, 36, 9, 1, 0, 207, 0), (8, 20, 10, 4, 0, 211, 0), (6, 27, 11, 4, 0, 215, 0), (2, 40, 12, 4, 0, 219, 0), (2, 59, 13, 1, 0, 223, 0), (2, 63, 14, 1, 0, 227, 0), (1, 29, 15, 0, 0, 231, 0), (1, 40, 16, 2, 2, 235, 0), (2, 67, 17, 1, 0, 238, 0), (2, 70, 18, 1, 0, 242, 0), (2, 74, 19, 1, 0, 246, 0), (1, 52, 17, 1, 0, 250, 0), (2, 47, 15, 0, 0, 251, 0), (8, 25, 20, 2, 0, 253, 0), (6, 41, 21, 3, 2, 257, 0), (8, 30, 22, 1, 0, 260, 0), (6, 45, 13, 1, 0, 264, 0), (6, 49, 15, 0, 0, 265, 0), (6, 61, 23, 1, 0, 267, 0), (4, 35, 24, 0, 0, 271, 0), (5, 28, 25, 2, 2, 275, 0), (4, 38, 26, 0, 0, 278, 0), (4, 47, 27, 1, 0, 282, 0), (3, 3, 0, 0, 3, 290, 0), (4, 56, 29, 1, 0, 343, 0), (8, 35, 30, 1, 0, 347, 0), (6, 69, 31, 0, 0, 351, 0), (4, 75, 32, 0, 0, 355, 0), (4, 95, 33, 1, 0, 359, 0), (4, 102, 35, 3, 0, 366, 0), (4, 106, 36, 1, 0, 370, 0), (4, 188, 37, 0, 0, 374, 0), (4, 78, 38, 1, 0, 378, 0), (4, 110, 39, 1, 0, 382, 0), (4, 122, 40, 3, 0, 386, 0), (3, 56, 41, 1, 2, 390, 0), (4, 126, 42, 1, 0, 393, 0), (4, 113, 43, 1, 0, 398, 0), (4, 157, 44, 1, 0, 402, 0), (4, 175, 45, 2, 2, 406, 0), (4, 163, 46, 1, 0, 409, 0), (4, 181, 47, 1, 0, 413, 0), (4, 166, 48, 1, 0, 417, 0), (4, 169, 49, 1, 0, 421, 0), (4, 185, 41, 1, 2, 425, 0), (8, 39, 50, 1, 0, 426, 0), (6, 72, 51, 1, 0, 430, 0), (6, 79, 34, 2, 2, 434, 0), (8, 44, 52, 1, 0, 435, 0), (6, 86, 53, 1, 0, 439, 0), (4, 203, 54, 0, 0, 443, 0), (4, 206, 55, 0, 0, 447, 0), (3, 63, 37, 0, 0, 451, 0), (8, 48, 56, 2, 0, 452, 0), (6, 94, 57, 2, 0, 456, 0), (8, 53, 58, 1, 0, 460, 0), (6, 100, 59, 1, 0, 464, 0), (8, 58, 60, 1, 0, 468, 0), (6, 104, 61, 1, 0, 472, 0), (8, 63, 62, 0, 0, 476, 0), (6, 108, 63, 0, 0, 480, 0), (8, 68, 64, 1, 0, 484, 0), (6, 112, 65, 1, 0, 488, 0), (8, 72, 66, 1, 0, 492, 0), (8, 76, 67, 2, 0, 496, 0), (6, 118, 68, 2, 0, 500, 0), (8, 12, 69, 0, 1, 507, 0), (7, 1, 0, 0, 3, 510, 0), (8, 19, 70, 2, 0, 626, 0), (7, 102, 71, 7, 0, 631, 0), (8, 24, 72, 4, 0, 635, 0), (7, 119, 73, 4, 0, 639, 0), (7, 110, 74, 1, 0, 643, 0), (7, 106, 75, 1, 0, 647, 0), (7, 113, 76, 1, 2, 651, 0), (7, 116, 77, 1, 0, 654, 0), (7, 123, 78, 1, 0, 658, 0), (8, 29, 79, 2, 0, 662, 0), (8, 34, 80, 1, 0, 666, 0), (7, 133, 81, 1, 0, 670, 0), (7, 130, 82, 1, 0, 674, 0), (8, 38, 83, 1, 0, 678, 0), (7, 202, 84, 1, 0, 682, 0), (7, 156, 85, 1, 0, 686, 0), (7, 167, 86, 0, 0, 690, 0), (7, 160, 87, 2, 0, 694, 0), (7, 199, 88, 1, 0, 698, 0), (7, 183, 89, 1, 0, 702, 0), (7, 171, 90, 1, 0, 706, 0), (7, 174, 91, 1, 0, 710, 0), (7, 177, 92, 1, 0, 714, 0), (7, 180, 93, 1, 0, 718, 0), (7, 186, 94, 1, 0, 722, 0), (7, 189, 95, 1, 0, 726, 0), (7, 192, 96, 1, 0, 730, 0), (7, 195, 97, 1, 0, 734, 0), (8, 43, 98, 1, 0, 738, 0), (8, 47, 99, 1, 0, 742, 0), (7, 212, 100, 0, 0, 746, 0), (7, 205, 101, 2, 0, 750, 0), (8, 52, 102, 2, 0, 754, 0), (8, 57, 103, 1, 0, 758, 0), (8, 62, 104, 1, 0, 762, 0), (8, 67, 105, 0, 0, 766, 0), (8, 71, 106, 1, 0, 770, 0), (8, 75, 107, 1, 0, 774, 0), (8, 79, 108, 2, 0, 778, 0), (6, 9, 2, 0, 1, 21, 1), (6, 18, 3, 0, 1, 36, 1), (4, 11, 4, 0, 1, 42, 1), (4, 20, 5, 0, 1, 73, 1), (4, 55, 28, 0, 1, 287, 1), (4, 147, 34, 2, 2, 363, 1), (4, 140, 21, 3, 2, 397, 1), (5, 34, 21, 3, 2, 504, 1)]
def zMt (oc idx : Nat) : Option (Nat × Nat × Nat) := (zMtL.find? (fun q => q.1 == oc && q.2.1 == idx)).map fun q => (q.2.2.1, q.2.2.2.1, q.2.2.2.2.1)
/-- a method: the places of its code, of its class is initialized, that it is of an instance (or static), that it is selected (in lw_tbl) -/
def zMkL : List (Nat × Nat × Nat × Nat) := [(18, 9999, 17, 99999), (15, 1, 14, 99999), (23, 2, 22, 99999), (38, 3, 37, 99999), (44, 4, 43, 99999), (75, 5, 74, 99999), (144, 1, 142, 182), (148, 2, 146, 186), (152, 7, 151, 99999), (210, 2, 209, 0), (214, 1, 212, 252), (218, 2, 216, 256), (222, 2, 221, 1), (226, 2, 224, 264), (230, 7, 228, 268), (234, 7, 232, 272), (237, 8, 236, 99999), (241, 7, 239, 279), (245, 7, 243, 283), (249, 7, 247, 287), (256, 1, 254, 294), (259, 1, 258, 99999), (263, 1, 261, 301), (270, 3, 268, 308), (274, 4, 272, 312), (277, 9, 276, 99999), (281, 5, 279, 319), (285, 3, 284, 2), (289, 10, 288, 99999), (346, 10, 344, 384), (350, 1, 348, 388), (354, 3, 352, 392), (358, 3, 357, 3), (362, 3, 361, 4), (365, 1, 364, 99999), (369, 5, 367, 407), (373, 3, 372, 5), (377, 10, 375, 415), (381, 3, 380, 6), (385, 3, 384, 7), (389, 10, 387, 427), (392, 10, 391, 99999), (396, 3, 395, 8), (401, 3, 400, 9), (405, 3, 404, 10), (408, 8, 407, 99999), (412, 3, 411, 11), (416, 5, 414, 454), (420, 3, 419, 12), (424, 3, 423, 13), (429, 1, 427, 467), (433, 4, 431, 471), (438, 1, 436, 476), (442, 3, 440, 480), (446, 3, 445, 14), (450, 10, 448, 488), (455, 1, 453, 493), (459, 5, 457, 497), (463, 1, 461, 501), (467, 3, 465, 505), (471, 1, 469, 509), (475, 3, 473, 513), (479, 1, 477, 517), (483, 3, 481, 521), (487, 1, 485, 525), (491, 5, 489, 529), (495, 1, 493, 533), (499, 1, 497, 537), (503, 4, 501, 541), (509, 6, 508, 99999), (629, 6, 627, 667), (634, 6, 633, 15), (638, 6, 636, 676), (642, 6, 641, 16), (646, 6, 645, 17), (650, 6, 649, 18), (653, 6, 652, 99999), (657, 6, 656, 19), (661, 6, 660, 20), (665, 6, 663, 703), (669, 6, 667, 707), (673, 6, 672, 21), (677, 6, 676, 22), (681, 6, 679, 719), (685, 6, 684, 23), (689, 6, 688, 24), (693, 6, 692, 25), (697, 6, 696, 26), (701, 6, 700, 27), (705, 6, 704, 28), (709, 6, 708, 29), (713, 6, 712, 30), (717, 6, 716, 31), (721, 6, 720, 32), (725, 6, 724, 33), (729, 6, 728, 34), (733, 6, 732, 35), (737, 6, 736, 36), (741, 6, 739, 779), (745, 6, 743, 783), (749, 6, 748, 37), (753, 6, 752, 38), (757, 6, 755, 795), (761, 6, 759, 799), (765, 6, 763, 803), (769, 6, 767, 807), (773, 6, 771, 811), (777, 6, 775, 815), (781, 6, 779, 819)]
end
section
/-! THE PURE MACHINE: sizes, shapes of cells by address, their contents; a frame; one instruction at a time; its tables (zY, zCode, zFld ..) stand in the part ahead. A shape (c, n): c < 100 an object of class c, else an array of kind c - 100; n its fields or elements -/
abbrev zW : Type := (Nat × Nat) × (Nat → Option (Nat × Nat)) × (Nat → Nat → Value)
abbrev zS : Type := Nat × Nat × (Nat → Int32)
def zset (w : zW) (a k : Nat) (v : Value) : zW := (w.1, w.2.1, fun x j => if x = a ∧ j = k then v else w.2.2 x j)
def zpush (w : zW) (c n : Nat) (f : Nat → Value) : zW := ((w.1.1 + 1, w.1.2 + n), (fun x => if x = w.1.1 then some (c, n) else w.2.1 x), fun x j => if x = w.1.1 then f j else w.2.2 x j)
def zlk (i : Nat) : List (Nat × Value) → Option Value
  | [] => none
  | q :: t => if q.1 = i then some q.2 else zlk i t
def zs1 (i : Nat) (v : Value) (L : List (Nat × Value)) : List (Nat × Value) := (i, v) :: L.filter (fun q => !(q.1 == i) && !(q.1 + 1 == i && q.2.category == 2))
def zs2 (i : Nat) (v : Value) (L : List (Nat × Value)) : List (Nat × Value) := (i, v) :: L.filter (fun q => !(q.1 == i) && (!(q.1 == i + 1) && !(q.1 + 1 == i && q.2.category == 2)))
/-- which kind of step an instruction is: 0 the operand stack alone, 1 locals, 2 a branch, 3 the heap and constants, 4 a call, 5 a return -/
def zgr : Jvm.ClassFile.Instr → Nat
  | .iconst _ => 0 | .bipush _ => 0 | .sipush _ => 0 | .lconst _ => 0 | .aconst_null => 0
  | .iadd => 0 | .isub => 0 | .imul => 0 | .idiv => 0 | .irem => 0 | .ineg => 0 | .iand => 0 | .ior => 0 | .ixor => 0 | .ishl => 0 | .ishr => 0 | .iushr => 0
  | .ladd => 0 | .lsub => 0 | .lmul => 0 | .ldiv => 0 | .lrem => 0 | .lneg => 0 | .land => 0 | .lor => 0 | .lxor => 0 | .lshl => 0 | .lshr => 0 | .lushr => 0
  | .i2l => 0 | .l2i => 0 | .lcmp => 0 | .dup => 0 | .pop => 0 | .dup_x1 => 0 | .dup_x2 => 0 | .dup2 => 0 | .pop2 => 0
  | .iload _ => 1 | .iload_n _ => 1 | .lload _ => 1 | .lload_n _ => 1 | .aload _ => 1 | .aload_n _ => 1
  | .istore _ => 1 | .istore_n _ => 1 | .lstore _ => 1 | .lstore_n _ => 1 | .astore _ => 1 | .astore_n _ => 1 | .iinc _ _ => 1
  | .ifCond _ _ => 2 | .if_icmp _ _ => 2 | .if_acmp _ _ => 2 | .ifnull _ => 2 | .ifnonnull _ => 2 | .goto _ => 2 | .tableswitch _ _ _ _ => 2 | .lookupswitch _ _ => 2
  | .getfield _ => 3 | .putfield _ => 3 | .new _ => 3 | .newarray _ => 3 | .anewarray _ => 3 | .arraylength => 3
  | .iaload => 3 | .laload => 3 | .baload => 3 | .aaload => 3 | .iastore => 3 | .lastore => 3 | .bastore => 3 | .aastore => 3 | .ldc _ => 3 | .ldc2_w _ => 3
  | .invokevirtual _ => 4 | .invokespecial _ => 4 | .invokestatic _ => 4
  | .ireturn => 5 | .lreturn => 5 | .areturn => 5 | .return_ => 5
  | _ => 6
def zalu : Jvm.ClassFile.Instr → Nat → List Value → Option (List Value)
  | .iconst n, 1, r => some (.int (Int32.ofInt n) :: r)
  | .bipush n, 2, r => some (.int (Int8.ofInt n).toInt32 :: r)
  | .sipush n, 3, r => some (.int (Int16.ofInt n).toInt32 :: r)
  | .lconst n, 1, r => some (.long (Int64.ofNat (n : Nat)) :: r)
  | .aconst_null, 1, r => some (.null :: r)
  | .iadd, 1, .int y :: .int x :: r => some (.int (x + y) :: r)
  | .isub, 1, .int y :: .int x :: r => some (.int (x - y) :: r)
  | .imul, 1, .int y :: .int x :: r => some (.int (x * y) :: r)
  | .idiv, 1, .int y :: .int x :: r => if y = 0 then none else some (.int (x / y) :: r)
  | .irem, 1, .int y :: .int x :: r => if y = 0 then none else some (.int (x - x / y * y) :: r)
  | .ineg, 1, .int x :: r => some (.int (-x) :: r)
  | .iand, 1, .int y :: .int x :: r => some (.int (x &&& y) :: r)
  | .ior, 1, .int y :: .int x :: r => some (.int (x ||| y) :: r)
  | .ixor, 1, .int y :: .int x :: r => some (.int (x ^^^ y) :: r)
  | .ishl, 1, .int y :: .int x :: r => some (.int (x <<< (y &&& 31)) :: r)
  | .ishr, 1, .int y :: .int x :: r => some (.int (x >>> (y &&& 31)) :: r)
  | .iushr, 1, .int y :: .int x :: r => some (.int (x.toUInt32 >>> (y.toUInt32 &&& Int32.toUInt32 31)).toInt32 :: r)
  | .ladd, 1, .long y :: .long x :: r => some (.long (x + y) :: r)
  | .lsub, 1, .long y :: .long x :: r => some (.long (x - y) :: r)
  | .lmul, 1, .long y :: .long x :: r => some (.long (x * y) :: r)
  | .ldiv, 1, .long y :: .long x :: r => if y = 0 then none else some (.long (x / y) :: r)
  | .lrem, 1, .long y :: .long x :: r => if y = 0 then none else some (.long (x - x / y * y) :: r)
  | .lneg, 1, .long x :: r => some (.long (-x) :: r)
  | .land, 1, .long y :: .long x :: r => some (.long (x &&& y) :: r)
  | .lor, 1, .long y :: .long x :: r => some (.long (x ||| y) :: r)
  | .lxor, 1, .long y :: .long x :: r => some (.long (x ^^^ y) :: r)
  | .lshl, 1, .int y :: .long x :: r => some (.long (x <<< (y.toInt64 &&& 63)) :: r)
  | .lshr, 1, .int y :: .long x :: r => some (.long (x >>> (y.toInt64 &&& 63)) :: r)
  | .lushr, 1, .int y :: .long x :: r => some (.long (x.toUInt64 >>> (y.toInt64.toUInt64 &&& Int64.toUInt64 63)).toInt64 :: r)
  | .i2l, 1, .int x :: r => some (.long x.toInt64 :: r)
  | .l2i, 1, .long x :: r => some (.int x.toInt32 :: r)
  | .lcmp, 1, .long y :: .long x :: r => some (.int (lg_cmp x y) :: r)
  | .dup, 1, v :: r => if v.category = 1 then some (v :: v :: r) else none
  | .pop, 1, v :: r => if v.category = 1 then some r else none
  | .dup_x1, 1, v :: u :: r => if v.category = 1 ∧ u.category = 1 then some (v :: u :: v :: r) else none
  | .dup_x2, 1, v :: u :: t :: r => if v.category = 1 ∧ u.category = 1 ∧ t.category = 1 then some (v :: u :: t :: v :: r) else none
  | _, _, _ => none
def zloc (nL : Nat) (ins : Jvm.ClassFile.Instr) (len : Nat) (L : List (Nat × Value)) (st : List Value) : Option (List (Nat × Value) × List Value) :=
  match ins, len, st with
  | .iload_n k, 1, r => (match zlk k.val L with | some (.int x) => some (L, .int x :: r) | _ => none)
  | .iload i, 2, r => (match zlk i L with | some (.int x) => some (L, .int x :: r) | _ => none)
  | .lload_n k, 1, r => (match zlk k.val L with | some (.long x) => some (L, .long x :: r) | _ => none)
  | .lload i, 2, r => (match zlk i L with | some (.long x) => some (L, .long x :: r) | _ => none)
  | .aload_n k, 1, r => (match zlk k.val L with | some (.ref x) => some (L, .ref x :: r) | some .null => some (L, .null :: r) | _ => none)
  | .aload i, 2, r => (match zlk i L with | some (.ref x) => some (L, .ref x :: r) | some .null => some (L, .null :: r) | _ => none)
  | .istore_n k, 1, .int x :: r => if k.val < nL then some (zs1 k.val (.int x) L, r) else none
  | .istore i, 2, .int x :: r => if i < nL then some (zs1 i (.int x) L, r) else none
  | .lstore_n k, 1, .long x :: r => if k.val + 1 < nL then some (zs2 k.val (.long x) L, r) else none
  | .lstore i, 2, .long x :: r => if i + 1 < nL then some (zs2 i (.long x) L, r) else none
  | .astore_n k, 1, .ref x :: r => if k.val < nL then some (zs1 k.val (.ref x) L, r) else none
  | .astore_n k, 1, .null :: r => if k.val < nL then some (zs1 k.val .null L, r) else none
  | .astore i, 2, .ref x :: r => if i < nL then some (zs1 i (.ref x) L, r) else none
  | .astore i, 2, .null :: r => if i < nL then some (zs1 i .null L, r) else none
  | .iinc i n, 3, r => (match zlk i L with | some (.int x) => if i < nL then some (zs1 i (.int (x + Int32.ofInt n)) L, r) else none | _ => none)
  | _, _, _ => none
/-- a jump's target -/
def ztg (pc : Nat) (off : Int) : Nat := ((pc : Int) + off).toNat
def zbc (pc : Nat) (off : Int) (r : List Value) (b : Bool) : Option (Nat × List Value) := if 0 ≤ (pc : Int) + off then some (if b = true then ztg pc off else pc + 3, r) else none
def zbr (ins : Jvm.ClassFile.Instr) (len pc : Nat) (st : List Value) : Option (Nat × List Value) :=
  match ins, len, st with
  | .ifCond .eq off, 3, .int x :: r => zbc pc off r (decide (x = 0))
  | .ifCond .ne off, 3, .int x :: r => zbc pc off r (decide (¬ x = 0))
  | .ifCond .lt off, 3, .int x :: r => zbc pc off r (decide (x < 0))
  | .ifCond .ge off, 3, .int x :: r => zbc pc off r (decide (0 ≤ x))
  | .ifCond .gt off, 3, .int x :: r => zbc pc off r (decide (0 < x))
  | .ifCond .le off, 3, .int x :: r => zbc pc off r (decide (x ≤ 0))
  | .if_icmp .eq off, 3, .int y :: .int x :: r => zbc pc off r (decide (x = y))
  | .if_icmp .ne off, 3, .int y :: .int x :: r => zbc pc off r (decide (¬ x = y))
  | .if_icmp .lt off, 3, .int y :: .int x :: r => zbc pc off r (decide (x < y))
  | .if_icmp .ge off, 3, .int y :: .int x :: r => zbc pc off r (decide (y ≤ x))
  | .if_icmp .gt off, 3, .int y :: .int x :: r => zbc pc off r (decide (y < x))
  | .if_icmp .le off, 3, .int y :: .int x :: r => zbc pc off r (decide (x ≤ y))
  | .ifnull off, 3, .ref _ :: r => zbc pc off r false
  | .ifnull off, 3, .null :: r => zbc pc off r true
  | .ifnonnull off, 3, .ref _ :: r => zbc pc off r true
  | .ifnonnull off, 3, .null :: r => zbc pc off r false
  | .goto off, 3, r => zbc pc off r true
  | .tableswitch dflt lo hi offs, _, .int x :: r => if x.toInt < lo ∨ hi < x.toInt then zbc pc dflt r true else (match offs[(x.toInt - lo).toNat]? with | some off => zbc pc off r true | none => none)
  | .lookupswitch dflt ps, _, .int x :: r => if (ps.toList.zip (ps.toList.drop 1)).all (fun (a, next) => a.1 < next.1) = true then zbc pc (Op.lookupswitch.offset ps.toList dflt x.toInt) r true else none
  | _, _, _ => none
/-- a field may take a value -/
abbrev zPf (mi ci k : Nat) (v : Value) : Prop := narrow (zFT ci k) v = v ∧ fits (zFT ci k) v = true ∧ (zFin ci k = false ∨ (zFin ci k = true ∧ zOC mi = ci ∧ (zY mi).name = "<init>"))
/-- an index within an array of kind k and length n -/
abbrev zix (i : Int32) (n : Nat) : Prop := ¬ (i < 0 ∨ n ≤ i.toNatClampNeg)
def zhp (S : zS) (mi : Nat) (ins : Jvm.ClassFile.Instr) (len : Nat) (st : List Value) (w : zW) : Option (List Value × zW) :=
  match ins, len, st with
  | .getfield idx, 3, .ref a :: r => (match zFld (zOC mi) idx, w.2.1 a with
    | some (ci, k), some (cj, _) => if cj = ci then some (w.2.2 a k :: r, w) else none
    | _, _ => none)
  | .putfield idx, 3, v :: .ref a :: r => (match zFld (zOC mi) idx, w.2.1 a with
    | some (ci, k), some (cj, _) => if cj = ci ∧ zPf mi ci k v then some (r, zset w a k v) else none
    | _, _ => none)
  | .new idx, 3, r => (match zNew (zOC mi) idx with
    | some ci => some (.ref w.1.1 :: r, zpush w ci (zN ci) (zBl ci))
    | none => none)
  | .newarray t, 2, .int n :: r => (match zNA t with
    | some k => if ¬ n < 0 ∧ n.toNatClampNeg ≤ 60000000 then some (.ref w.1.1 :: r, zpush w (100 + k) n.toNatClampNeg (fun _ => defaultValue (zAK k))) else none
    | none => none)
  | .anewarray idx, 3, .int n :: r => (match zAN (zOC mi) idx with
    | some k => if ¬ n < 0 ∧ n.toNatClampNeg ≤ 60000000 then some (.ref w.1.1 :: r, zpush w (100 + k) n.toNatClampNeg (fun _ => .null)) else none
    | none => none)
  | .arraylength, 1, .ref a :: r => (match w.2.1 a with
    | some (c, n) => if 100 ≤ c then some (.int (Int32.ofNat n) :: r, w) else none
    | none => if a = S.1 then some (.int (Int32.ofNat S.2.1) :: r, w) else none)
  | .iaload, 1, .int i :: .ref a :: r => (match w.2.1 a with
    | some (c, n) => if 100 ≤ c ∧ zAK (c - 100) = .int ∧ zix i n then some (w.2.2 a i.toNatClampNeg :: r, w) else none
    | none => if a = S.1 ∧ zix i S.2.1 then some (.int (S.2.2 i.toNatClampNeg) :: r, w) else none)
  | .laload, 1, .int i :: .ref a :: r => (match w.2.1 a with
    | some (c, n) => if 100 ≤ c ∧ zAK (c - 100) = .long ∧ zix i n then some (w.2.2 a i.toNatClampNeg :: r, w) else none
    | none => none)
  | .baload, 1, .int i :: .ref a :: r => (match w.2.1 a with
    | some (c, n) => if 100 ≤ c ∧ zAK (c - 100) = .boolean ∧ zix i n then some (w.2.2 a i.toNatClampNeg :: r, w) else none
    | none => none)
  | .aaload, 1, .int i :: .ref a :: r => (match w.2.1 a with
    | some (c, n) => if 100 ≤ c ∧ (zAc (c - 100)).isSome = true ∧ zix i n then some (w.2.2 a i.toNatClampNeg :: r, w) else none
    | none => none)
  | .iastore, 1, .int x :: .int i :: .ref a :: r => (match w.2.1 a with
    | some (c, n) => if 100 ≤ c ∧ zAK (c - 100) = .int ∧ zix i n then some (r, zset w a i.toNatClampNeg (.int x)) else none
    | none => none)
  | .lastore, 1, .long x :: .int i :: .ref a :: r => (match w.2.1 a with
    | some (c, n) => if 100 ≤ c ∧ zAK (c - 100) = .long ∧ zix i n then some (r, zset w a i.toNatClampNeg (.long x)) else none
    | none => none)
  | .bastore, 1, .int x :: .int i :: .ref a :: r => (match w.2.1 a with
    | some (c, n) => if 100 ≤ c ∧ zAK (c - 100) = .boolean ∧ narrow .boolean (.int x) = .int x ∧ zix i n then some (r, zset w a i.toNatClampNeg (.int x)) else none
    | none => none)
  | .aastore, 1, .ref v :: .int i :: .ref a :: r => (match w.2.1 a, w.2.1 v with
    | some (c, n), some (cj, _) => if 100 ≤ c ∧ zAc (c - 100) = some cj ∧ zix i n then some (r, zset w a i.toNatClampNeg (.ref v)) else none
    | _, _ => none)
  | .ldc idx, 2, r => (match zLd (zOC mi) idx with | some x => some (.int x :: r, w) | none => none)
  | .ldc2_w idx, 3, r => (match zLd2 (zOC mi) idx with | some x => some (.long x :: r, w) | none => none)
  | _, _, _ => none
def zcs (r : List Value) : Nat := (r.map fun v => v.category).sum
/-- a call: the method, its arguments, what stays on the stack -/
def zcl (mi : Nat) (ins : Jvm.ClassFile.Instr) (len : Nat) (st : List Value) (w : zW) : Option (Nat × List Value × List Value) :=
  match ins, len with
  | .invokevirtual idx, 3 => (match zMt (zOC mi) idx with
    | some (mj, n, 0) => (match st.drop n with
      | .ref b :: rest => (match w.2.1 b with
        | some (cj, _) => if zRC mj = some cj ∧ zcs rest ≤ 8 ∧ (lg_sl (.ref b :: (st.take n).reverse)).length ≤ zML mj then some (mj, .ref b :: (st.take n).reverse, rest) else none
        | none => none)
      | _ => none)
    | _ => none)
  | .invokespecial idx, 3 => (match zMt (zOC mi) idx with
    | some (mj, n, 1) => (match st.drop n with
      | .ref b :: rest => if zcs rest ≤ 8 ∧ (lg_sl (.ref b :: (st.take n).reverse)).length ≤ zML mj then some (mj, .ref b :: (st.take n).reverse, rest) else none
      | _ => none)
    | some (_, _, 3) => (match st with
      | .ref b :: rest => if zcs rest ≤ 8 then some (0, [.ref b], rest) else none
      | _ => none)
    | _ => none)
  | .invokestatic idx, 3 => (match zMt (zOC mi) idx with
    | some (mj, n, 2) => if n ≤ st.length ∧ zcs (st.drop n) ≤ 8 ∧ (lg_sl (st.take n).reverse).length ≤ zML mj then some (mj, (st.take n).reverse, st.drop n) else none
    | _ => none)
  | _, _ => none
def zrt (mi : Nat) (ins : Jvm.ClassFile.Instr) (len : Nat) (st : List Value) : Option (Option Value) :=
  match ins, len, st with
  | .ireturn, 1, [.int v] => (match zRT mi with | some ty => if narrow ty (.int v) = .int v then some (some (.int v)) else none | none => none)
  | .lreturn, 1, [.long v] => if zRT mi = some .long then some (some (.long v)) else none
  | .areturn, 1, [.ref v] => (match zRT mi with | some (.object _) => some (some (.ref v)) | some (.array _) => some (some (.ref v)) | _ => none)
  | .areturn, 1, [.null] => (match zRT mi with | some (.object _) => some (some .null) | some (.array _) => some (some .null) | _ => none)
  | .return_, 1, [] => if zRT mi = none then some none else none
  | _, _, _ => none
abbrev zR : Type := (Nat × List (Nat × Value) × List Value × zW) ⊕ ((Nat × List Value × List Value) ⊕ Option Value)
def zst (S : zS) (mi : Nat) (ins : Jvm.ClassFile.Instr) (len pc : Nat) (L : List (Nat × Value)) (st : List Value) (w : zW) : Option zR :=
  match zgr ins with
  | 0 => (zalu ins len st).map fun st' => .inl (pc + len, L, st', w)
  | 1 => (zloc (zML mi) ins len L st).map fun q => .inl (pc + len, q.1, q.2, w)
  | 2 => (zbr ins len pc st).map fun q => .inl (q.1, L, q.2, w)
  | 3 => (zhp S mi ins len st w).map fun q => .inl (pc + len, L, q.1, q.2)
  | 4 => (zcl mi ins len st w).map fun q => .inr (.inl q)
  | 5 => (zrt mi ins len st).map fun q => .inr (.inr q)
  | _ => none
/-- the run of a method from a point on: with n steps, d frames below it -/
def zgo (S : zS) : Nat → Nat → Nat → Nat → List (Nat × Value) → List Value → zW → Option (Option Value × zW)
  | 0, _, _, _, _, _, _ => none
  | n + 1, d, mi, pc, L, st, w =>
    match decode (zCode mi) pc with
    | .error _ => none
    | .ok (ins, len) => match zst S mi ins len pc L st w with
      | none => none
      | some (.inl (pc', L', st', w')) => zgo S n d mi pc' L' st' w'
      | some (.inr (.inr v)) => some (v, w)
      | some (.inr (.inl (mj, as, rest))) => match d with
        | 0 => none
        | d' + 1 => match zgo S n d' mj 0 (lv_args 0 as) [] w with
          | none => none
          | some (v, w') => zgo S n (d' + 1) mi (pc + 3) L (v.toList ++ rest) w'
/-- it comes to its end, with Post -/
def zOk (S : zS) (d mi pc : Nat) (L : List (Nat × Value)) (st : List Value) (w : zW) (Post : Option Value → zW → Prop) : Prop := ∃ n v w', zgo S n d mi pc L st w = some (v, w') ∧ Post v w'
end
section
/-! what the tables say: every entry has its word among the claim's -/
def zTbl : List Cond := lw_tbl.filter goodWord
def zNs : Cond → Bool
  | .methodLinkNest _ _ _ _ => true
  | .arrayOver (.object _) => true
  | _ => false
def zNst : List Cond := tables_1.filter zNs
theorem z_t {w : Cond} {i : Nat} (h : tables_1[i]? = some w) (hg : goodWord w = true) : w ∈ zTbl := List.mem_filter.mpr ⟨List.mem_append_right _ (List.mem_of_getElem? h), hg⟩
theorem z_l {w : Cond} {i : Nat} (h : lw_tbl[i]? = some w) (hg : goodWord w = true) : w ∈ zTbl := List.mem_filter.mpr ⟨List.mem_of_getElem? h, hg⟩
theorem z_n {w : Cond} {i : Nat} (h : tables_1[i]? = some w) (hg : zNs w = true) : w ∈ zNst := List.mem_filter.mpr ⟨List.mem_of_getElem? h, hg⟩
theorem zTbl_good (w : Cond) (h : w ∈ zTbl) : (w.onTables && w.keeps) = true ∨ ∃ ty, w = .arrayClass ty := good_of_word (List.mem_filter.mp h).2
theorem zNs_cases {w : Cond} (h : zNs w = true) : (∃ a i x t, w = .methodLinkNest a i x t) ∨ ∃ C, w = .arrayOver (.object C) := by
  unfold zNs at h
  split at h
  · exact Or.inl ⟨_, _, _, _, rfl⟩
  · exact Or.inr ⟨_, rfl⟩
  · cases h
theorem zNst_warm {s U : State} (hW : s.WarmedH U.vm) (h : ∀ w ∈ zNst, va_Nw w s) : ∀ w ∈ zNst, va_Nw w U := by
  intro w hw
  have h1 := h w hw
  rcases zNs_cases (List.mem_filter.mp hw).2 with ⟨a, i, x, t, rfl⟩ | ⟨C, rfl⟩
  · exact va_Nw.warmM hW h1
  · exact va_AO.moved hW.alike h1
theorem zNst_same {s U : State} (hv : s.vm = U.vm) (h : ∀ w ∈ zNst, va_Nw w s) : ∀ w ∈ zNst, va_Nw w U := by
  intro w hw
  have h1 := h w hw
  rcases zNs_cases (List.mem_filter.mp hw).2 with ⟨a, i, x, t, rfl⟩ | ⟨C, rfl⟩
  · exact va_Nw.same rfl hv h1
  · exact va_AO.moved (by rw [hv]; exact Vm.Alike.refl _) h1
/-- classes -/
def zClC (ci : Nat) : Bool := match vwCl[ci]? with
  | some r => (List.range r.2.2).all (fun k => decide (parseFieldDescriptor (r.2.1 k).2.2.1 = some (zFT ci k)) && decide ((r.2.1 k).2.2.2 = zFin ci k) && decide ((r.2.1 k).1 = r.1)) && decide (zN ci = r.2.2) && decide (zON ci = r.1) && decide (ci < 100) && (List.range r.2.2).all (fun a => (List.range r.2.2).all (fun b => decide (a = b) || decide ((r.2.1 a).2.1 ≠ (r.2.1 b).2.1)))
  | none => true
set_option maxRecDepth 100000 in
theorem zClC_ok : (List.range 8).all zClC = true := by decide +kernel
set_option maxRecDepth 100000 in
theorem zClW_ok : vwCl.all (fun r => (u_ws r.1 r.2.1 r.2.2).all fun w => decide (w ∈ tables_1) && goodWord w) = true := by decide +kernel
theorem zCl_lt8 {ci : Nat} {r : vw_C} (h : vwCl[ci]? = some r) : ci < 8 := (List.getElem?_eq_some_iff.mp h).1
theorem zCl_ok {ci : Nat} {C : String} {T : u_T} {N : Nat} (h : vwCl[ci]? = some (C, T, N)) : (∀ w ∈ u_ws C T N, w ∈ zTbl) ∧ (∀ k, k < N → parseFieldDescriptor (T k).2.2.1 = some (zFT ci k)) ∧ (∀ a, a < N → ∀ b, b < N → a ≠ b → (T a).2.1 ≠ (T b).2.1) ∧ (∀ k, k < N → (T k).2.2.2 = zFin ci k) ∧ (∀ k, k < N → (T k).1 = C) ∧ zN ci = N ∧ zON ci = C := by
  have h1 := List.all_eq_true.mp zClC_ok ci (List.mem_range.mpr (zCl_lt8 h))
  have h2 := List.all_eq_true.mp zClW_ok _ (List.mem_of_getElem? h)
  unfold zClC at h1
  rw [h] at h1
  simp only [Bool.and_eq_true, List.all_eq_true, List.mem_range, decide_eq_true_eq, Bool.or_eq_true] at h1
  obtain ⟨⟨⟨⟨h3, h4⟩, h5⟩, h6⟩, h7⟩ := h1
  refine ⟨fun w hw => ?_, fun k hk => (h3 k hk).1.1, fun a ha b hb hne => ?_, fun k hk => (h3 k hk).1.2, fun k hk => (h3 k hk).2, h4, h5⟩
  · have h8 := List.all_eq_true.mp h2 w hw
    simp only [Bool.and_eq_true, decide_eq_true_eq] at h8
    exact List.mem_filter.mpr ⟨List.mem_append_right _ h8.1, h8.2⟩
  · rcases h7 a ha b hb with h9 | h9
    · exact absurd h9 hne
    · exact h9
theorem zCl_lt {ci : Nat} {r : vw_C} (h : vwCl[ci]? = some r) : ci < 100 := Nat.lt_of_lt_of_le (zCl_lt8 h) (by decide)
theorem zON_ok {ci : Nat} {C : String} {T : u_T} {N : Nat} (h : vwCl[ci]? = some (C, T, N)) : zON ci = C := (zCl_ok h).2.2.2.2.2.2
/-- fields -/
def zFldC (q : Nat × Nat × Nat × Nat × Nat) : Bool := match vwCl[q.2.2.1]? with
  | some r => decide (q.2.2.2.1 < r.2.2) && decide (tables_1[q.2.2.2.2]? = some (Cond.fieldLink (zON q.1) q.2.1 r.1 (r.2.1 q.2.2.2.1).2.1 (r.2.1 q.2.2.2.1).2.2.1))
  | none => false
set_option maxRecDepth 100000 in
theorem zFldC_ok : zFldL.all zFldC = true := by decide +kernel
theorem z_find {α β : Type} {l : List α} {f : α → Bool} {g : α → β} {y : β} (h : (l.find? f).map g = some y) : ∃ q ∈ l, f q = true ∧ g q = y := by
  cases hf : l.find? f with
  | none => rw [hf] at h; cases h
  | some q =>
    rw [hf] at h
    exact ⟨q, List.mem_of_find?_eq_some hf, List.find?_some hf, Option.some.inj h⟩
theorem zFld_ok {oc idx ci k : Nat} (h : zFld oc idx = some (ci, k)) : ∃ (C : String) (T : u_T) (N : Nat), vwCl[ci]? = some (C, T, N) ∧ ci < 100 ∧ k < N ∧ (T k).1 = C ∧ (Cond.fieldLink (zON oc) idx C (T k).2.1 (T k).2.2.1 ∈ zTbl ∨ ∃ host, Cond.fieldLinkNest (zON oc) idx C (T k).2.1 (T k).2.2.1 host ∈ zNst) := by
  obtain ⟨q, hq, hk, he⟩ := z_find h
  obtain ⟨q1, q2, q3, q4, q5⟩ := q
  cases he
  simp only [Bool.and_eq_true, beq_iff_eq] at hk
  obtain ⟨rfl, rfl⟩ := hk
  have h1 := List.all_eq_true.mp zFldC_ok _ hq
  unfold zFldC at h1
  dsimp only at h1
  split at h1
  · rename_i r hr
    obtain ⟨C, T, N⟩ := r
    simp only [Bool.and_eq_true, decide_eq_true_eq] at h1
    exact ⟨C, T, N, hr, zCl_lt hr, h1.1, (zCl_ok hr).2.2.2.2.1 _ h1.1, Or.inl (z_t h1.2 rfl)⟩
  · cases h1
/-- new objects -/
def zNewC (q : Nat × Nat × Nat × Nat × Nat × Nat) : Bool := match vwCl[q.2.2.1]? with
  | some r => decide (tables_1[q.2.2.2.1]? = some (Cond.classLink (zON q.1) q.2.1 r.1)) && decide (tables_1[q.2.2.2.2.1]? = some (Cond.instantiable r.1 r.2.2)) && decide (tables_1[q.2.2.2.2.2]? = some (Cond.initialized r.1))
  | none => false
set_option maxRecDepth 100000 in
theorem zNewC_ok : zNewL.all zNewC = true := by decide +kernel
theorem zNew_ok {oc idx ci : Nat} (h : zNew oc idx = some ci) : ∃ (C : String) (T : u_T), vwCl[ci]? = some (C, T, zN ci) ∧ ci < 100 ∧ Cond.classLink (zON oc) idx C ∈ zTbl ∧ Cond.instantiable C (zN ci) ∈ zTbl ∧ Cond.initialized C ∈ zTbl := by
  obtain ⟨q, hq, hk, he⟩ := z_find h
  obtain ⟨q1, q2, q3, q4, q5, q6⟩ := q
  cases he
  simp only [Bool.and_eq_true, beq_iff_eq] at hk
  obtain ⟨rfl, rfl⟩ := hk
  have h1 := List.all_eq_true.mp zNewC_ok _ hq
  unfold zNewC at h1
  dsimp only at h1
  split at h1
  · rename_i r hr
    obtain ⟨C, T, N⟩ := r
    have hN : zN q3 = N := (zCl_ok hr).2.2.2.2.2.1
    subst hN
    simp only [Bool.and_eq_true, decide_eq_true_eq] at h1
    exact ⟨C, T, hr, zCl_lt hr, z_t h1.1.1 rfl, z_t h1.1.2 rfl, z_t h1.2 rfl⟩
  · cases h1
/-- arrays -/
theorem zNA_ok {t : Jvm.ClassFile.ArrayType} {k : Nat} (h : zNA t = some k) : k < zNT ∧ newarray.typeOf t = zAK k ∧ Cond.arrayClass (newarray.typeOf t) ∈ zTbl ∧ componentBytes (newarray.typeOf t) ≤ 8 ∧ True := by
  cases t with
  | int => cases h; exact ⟨by decide, rfl, z_t (i := 97) (by decide +kernel) rfl, by decide, trivial⟩
  | long => cases h; exact ⟨by decide, rfl, z_t (i := 69) (by decide +kernel) rfl, by decide, trivial⟩
  | boolean => cases h; exact ⟨by decide, rfl, z_t (i := 70) (by decide +kernel) rfl, by decide, trivial⟩
  | _ => cases h
theorem zAc_ok {k cj : Nat} (h : zAc k = some cj) : ∃ r0 : vw_C, vwCl[cj]? = some r0 ∧ zAK k = .object r0.1 := by
  unfold zAc at h
  split at h
  · cases h; exact ⟨_, rfl, rfl⟩
  · cases h; exact ⟨_, rfl, rfl⟩
  · cases h
theorem zAc_lt {k cj : Nat} (h : zAc k = some cj) : cj < 100 := by
  obtain ⟨r0, h1, -⟩ := zAc_ok h
  exact zCl_lt h1
def zANC (q : Nat × Nat × Nat × Nat × Nat) : Bool := decide (q.2.2.1 < zNT) && (match zAK q.2.2.1 with
  | .object C => decide (tables_1[q.2.2.2.1]? = some (Cond.classLink (zON q.1) q.2.1 C)) && decide (tables_1[q.2.2.2.2]? = some (Cond.arrayOver (.object C)))
  | _ => false)
set_option maxRecDepth 100000 in
theorem zANC_ok : zANL.all zANC = true := by decide +kernel
theorem zAN_ok {oc idx k : Nat} (h : zAN oc idx = some k) : ∃ C : String, k < zNT ∧ zAK k = .object C ∧ Cond.classLink (zON oc) idx C ∈ zTbl ∧ Cond.arrayOver (.object C) ∈ zNst := by
  obtain ⟨q, hq, hk, he⟩ := z_find h
  obtain ⟨q1, q2, q3, q4, q5⟩ := q
  cases he
  simp only [Bool.and_eq_true, beq_iff_eq] at hk
  obtain ⟨rfl, rfl⟩ := hk
  have h1 := List.all_eq_true.mp zANC_ok _ hq
  unfold zANC at h1
  simp only [Bool.and_eq_true, decide_eq_true_eq] at h1
  obtain ⟨h0, h1⟩ := h1
  split at h1
  · rename_i C hC
    simp only [Bool.and_eq_true, decide_eq_true_eq] at h1
    exact ⟨C, h0, hC, z_t h1.1 rfl, z_n h1.2 rfl⟩
  · cases h1
/-- constants -/
theorem zLd_ok {oc idx : Nat} {v : Int32} (h : zLd oc idx = some v) : Cond.constant (zON oc) idx v ∈ zTbl := by cases h
def zLd2C (q : Nat × Nat × Int64 × Nat) : Bool := decide (tables_1[q.2.2.2]? = some (Cond.constantLong (zON q.1) q.2.1 q.2.2.1))
set_option maxRecDepth 100000 in
theorem zLd2C_ok : zLd2L.all zLd2C = true := by decide +kernel
theorem zLd2_ok {oc idx : Nat} {v : Int64} (h : zLd2 oc idx = some v) : Cond.constantLong (zON oc) idx v ∈ zTbl := by
  obtain ⟨q, hq, hk, he⟩ := z_find h
  obtain ⟨q1, q2, q3, q4⟩ := q
  cases he
  simp only [Bool.and_eq_true, beq_iff_eq] at hk
  obtain ⟨rfl, rfl⟩ := hk
  have h1 := List.all_eq_true.mp zLd2C_ok _ hq
  unfold zLd2C at h1
  exact z_t (of_decide_eq_true h1) rfl
end
section
/-! the code of every method is among the words -/
set_option maxRecDepth 100000 in
theorem zc1 : Cond.code (zY 1) (zCode 1) (zML 1) (zRT 1) ∈ zTbl := z_t (i := 15) rfl rfl
set_option maxRecDepth 100000 in
theorem zc2 : Cond.code (zY 2) (zCode 2) (zML 2) (zRT 2) ∈ zTbl := z_t (i := 23) rfl rfl
set_option maxRecDepth 100000 in
theorem zc3 : Cond.code (zY 3) (zCode 3) (zML 3) (zRT 3) ∈ zTbl := z_t (i := 38) rfl rfl
set_option maxRecDepth 100000 in
theorem zc4 : Cond.code (zY 4) (zCode 4) (zML 4) (zRT 4) ∈ zTbl := z_t (i := 44) rfl rfl
set_option maxRecDepth 100000 in
theorem zc5 : Cond.code (zY 5) (zCode 5) (zML 5) (zRT 5) ∈ zTbl := z_t (i := 75) rfl rfl
set_option maxRecDepth 100000 in
theorem zc6 : Cond.code (zY 6) (zCode 6) (zML 6) (zRT 6) ∈ zTbl := z_t (i := 144) rfl rfl
set_option maxRecDepth 100000 in
theorem zc7 : Cond.code (zY 7) (zCode 7) (zML 7) (zRT 7) ∈ zTbl := z_t (i := 148) rfl rfl
set_option maxRecDepth 100000 in
theorem zc8 : Cond.code (zY 8) (zCode 8) (zML 8) (zRT 8) ∈ zTbl := z_t (i := 152) rfl rfl
set_option maxRecDepth 100000 in
theorem zc9 : Cond.code (zY 9) (zCode 9) (zML 9) (zRT 9) ∈ zTbl := z_t (i := 210) rfl rfl
set_option maxRecDepth 100000 in
theorem zc10 : Cond.code (zY 10) (zCode 10) (zML 10) (zRT 10) ∈ zTbl := z_t (i := 214) rfl rfl
set_option maxRecDepth 100000 in
theorem zc11 : Cond.code (zY 11) (zCode 11) (zML 11) (zRT 11) ∈ zTbl := z_t (i := 218) rfl rfl
set_option maxRecDepth 100000 in
theorem zc12 : Cond.code (zY 12) (zCode 12) (zML 12) (zRT 12) ∈ zTbl := z_t (i := 222) rfl rfl
set_option maxRecDepth 100000 in
theorem zc13 : Cond.code (zY 13) (zCode 13) (zML 13) (zRT 13) ∈ zTbl := z_t (i := 226) rfl rfl
set_option maxRecDepth 100000 in
theorem zc14 : Cond.code (zY 14) (zCode 14) (zML 14) (zRT 14) ∈ zTbl := z_t (i := 230) rfl rfl
set_option maxRecDepth 100000 in
theorem zc15 : Cond.code (zY 15) (zCode 15) (zML 15) (zRT 15) ∈ zTbl := z_t (i := 234) rfl rfl
set_option maxRecDepth 100000 in
theorem zc16 : Cond.code (zY 16) (zCode 16) (zML 16) (zRT 16) ∈ zTbl := z_t (i := 237) rfl rfl
set_option maxRecDepth 100000 in
theorem zc17 : Cond.code (zY 17) (zCode 17) (zML 17) (zRT 17) ∈ zTbl := z_t (i := 241) rfl rfl
set_option maxRecDepth 100000 in
theorem zc18 : Cond.code (zY 18) (zCode 18) (zML 18) (zRT 18) ∈ zTbl := z_t (i := 245) rfl rfl
set_option maxRecDepth 100000 in
theorem zc19 : Cond.code (zY 19) (zCode 19) (zML 19) (zRT 19) ∈ zTbl := z_t (i := 249) rfl rfl
set_option maxRecDepth 100000 in
theorem zc20 : Cond.code (zY 20) (zCode 20) (zML 20) (zRT 20) ∈ zTbl := z_t (i := 256) rfl rfl
set_option maxRecDepth 100000 in
theorem zc21 : Cond.code (zY 21) (zCode 21) (zML 21) (zRT 21) ∈ zTbl := z_t (i := 259) rfl rfl
set_option maxRecDepth 100000 in
theorem zc22 : Cond.code (zY 22) (zCode 22) (zML 22) (zRT 22) ∈ zTbl := z_t (i := 263) rfl rfl
set_option maxRecDepth 100000 in
theorem zc23 : Cond.code (zY 23) (zCode 23) (zML 23) (zRT 23) ∈ zTbl := z_t (i := 270) rfl rfl
set_option maxRecDepth 100000 in
theorem zc24 : Cond.code (zY 24) (zCode 24) (zML 24) (zRT 24) ∈ zTbl := z_t (i := 274) rfl rfl
set_option maxRecDepth 100000 in
theorem zc25 : Cond.code (zY 25) (zCode 25) (zML 25) (zRT 25) ∈ zTbl := z_t (i := 277) rfl rfl
set_option maxRecDepth 100000 in
theorem zc26 : Cond.code (zY 26) (zCode 26) (zML 26) (zRT 26) ∈ zTbl := z_t (i := 281) rfl rfl
set_option maxRecDepth 100000 in
theorem zc27 : Cond.code (zY 27) (zCode 27) (zML 27) (zRT 27) ∈ zTbl := z_t (i := 285) rfl rfl
set_option maxRecDepth 100000 in
theorem zc28 : Cond.code (zY 28) (zCode 28) (zML 28) (zRT 28) ∈ zTbl := z_t (i := 289) rfl rfl
set_option maxRecDepth 100000 in
theorem zc29 : Cond.code (zY 29) (zCode 29) (zML 29) (zRT 29) ∈ zTbl := z_t (i := 346) rfl rfl
set_option maxRecDepth 100000 in
theorem zc30 : Cond.code (zY 30) (zCode 30) (zML 30) (zRT 30) ∈ zTbl := z_t (i := 350) rfl rfl
set_option maxRecDepth 100000 in
theorem zc31 : Cond.code (zY 31) (zCode 31) (zML 31) (zRT 31) ∈ zTbl := z_t (i := 354) rfl rfl
set_option maxRecDepth 100000 in
theorem zc32 : Cond.code (zY 32) (zCode 32) (zML 32) (zRT 32) ∈ zTbl := z_t (i := 358) rfl rfl
set_option maxRecDepth 100000 in
theorem zc33 : Cond.code (zY 33) (zCode 33) (zML 33) (zRT 33) ∈ zTbl := z_t (i := 362) rfl rfl
set_option maxRecDepth 100000 in
theorem zc34 : Cond.code (zY 34) (zCode 34) (zML 34) (zRT 34) ∈ zTbl := z_t (i := 365) rfl rfl
set_option maxRecDepth 100000 in
theorem zc35 : Cond.code (zY 35) (zCode 35) (zML 35) (zRT 35) ∈ zTbl := z_t (i := 369) rfl rfl
set_option maxRecDepth 100000 in
theorem zc36 : Cond.code (zY 36) (zCode 36) (zML 36) (zRT 36) ∈ zTbl := z_t (i := 373) rfl rfl
set_option maxRecDepth 100000 in
theorem zc37 : Cond.code (zY 37) (zCode 37) (zML 37) (zRT 37) ∈ zTbl := z_t (i := 377) rfl rfl
set_option maxRecDepth 100000 in
theorem zc38 : Cond.code (zY 38) (zCode 38) (zML 38) (zRT 38) ∈ zTbl := z_t (i := 381) rfl rfl
set_option maxRecDepth 100000 in
theorem zc39 : Cond.code (zY 39) (zCode 39) (zML 39) (zRT 39) ∈ zTbl := z_t (i := 385) rfl rfl
set_option maxRecDepth 100000 in
theorem zc40 : Cond.code (zY 40) (zCode 40) (zML 40) (zRT 40) ∈ zTbl := z_t (i := 389) rfl rfl
set_option maxRecDepth 100000 in
theorem zc41 : Cond.code (zY 41) (zCode 41) (zML 41) (zRT 41) ∈ zTbl := z_t (i := 392) rfl rfl
set_option maxRecDepth 100000 in
theorem zc42 : Cond.code (zY 42) (zCode 42) (zML 42) (zRT 42) ∈ zTbl := z_t (i := 396) rfl rfl
set_option maxRecDepth 100000 in
theorem zc43 : Cond.code (zY 43) (zCode 43) (zML 43) (zRT 43) ∈ zTbl := z_t (i := 401) rfl rfl
set_option maxRecDepth 100000 in
theorem zc44 : Cond.code (zY 44) (zCode 44) (zML 44) (zRT 44) ∈ zTbl := z_t (i := 405) rfl rfl
set_option maxRecDepth 100000 in
theorem zc45 : Cond.code (zY 45) (zCode 45) (zML 45) (zRT 45) ∈ zTbl := z_t (i := 408) rfl rfl
set_option maxRecDepth 100000 in
theorem zc46 : Cond.code (zY 46) (zCode 46) (zML 46) (zRT 46) ∈ zTbl := z_t (i := 412) rfl rfl
set_option maxRecDepth 100000 in
theorem zc47 : Cond.code (zY 47) (zCode 47) (zML 47) (zRT 47) ∈ zTbl := z_t (i := 416) rfl rfl
set_option maxRecDepth 100000 in
theorem zc48 : Cond.code (zY 48) (zCode 48) (zML 48) (zRT 48) ∈ zTbl := z_t (i := 420) rfl rfl
set_option maxRecDepth 100000 in
theorem zc49 : Cond.code (zY 49) (zCode 49) (zML 49) (zRT 49) ∈ zTbl := z_t (i := 424) rfl rfl
set_option maxRecDepth 100000 in
theorem zc50 : Cond.code (zY 50) (zCode 50) (zML 50) (zRT 50) ∈ zTbl := z_t (i := 429) rfl rfl
set_option maxRecDepth 100000 in
theorem zc51 : Cond.code (zY 51) (zCode 51) (zML 51) (zRT 51) ∈ zTbl := z_t (i := 433) rfl rfl
set_option maxRecDepth 100000 in
theorem zc52 : Cond.code (zY 52) (zCode 52) (zML 52) (zRT 52) ∈ zTbl := z_t (i := 438) rfl rfl
set_option maxRecDepth 100000 in
theorem zc53 : Cond.code (zY 53) (zCode 53) (zML 53) (zRT 53) ∈ zTbl := z_t (i := 442) rfl rfl
set_option maxRecDepth 100000 in
theorem zc54 : Cond.code (zY 54) (zCode 54) (zML 54) (zRT 54) ∈ zTbl := z_t (i := 446) rfl rfl
set_option maxRecDepth 100000 in
theorem zc55 : Cond.code (zY 55) (zCode 55) (zML 55) (zRT 55) ∈ zTbl := z_t (i := 450) rfl rfl
set_option maxRecDepth 100000 in
theorem zc56 : Cond.code (zY 56) (zCode 56) (zML 56) (zRT 56) ∈ zTbl := z_t (i := 455) rfl rfl
set_option maxRecDepth 100000 in
theorem zc57 : Cond.code (zY 57) (zCode 57) (zML 57) (zRT 57) ∈ zTbl := z_t (i := 459) rfl rfl
set_option maxRecDepth 100000 in
theorem zc58 : Cond.code (zY 58) (zCode 58) (zML 58) (zRT 58) ∈ zTbl := z_t (i := 463) rfl rfl
set_option maxRecDepth 100000 in
theorem zc59 : Cond.code (zY 59) (zCode 59) (zML 59) (zRT 59) ∈ zTbl := z_t (i := 467) rfl rfl
set_option maxRecDepth 100000 in
theorem zc60 : Cond.code (zY 60) (zCode 60) (zML 60) (zRT 60) ∈ zTbl := z_t (i := 471) rfl rfl
set_option maxRecDepth 100000 in
theorem zc61 : Cond.code (zY 61) (zCode 61) (zML 61) (zRT 61) ∈ zTbl := z_t (i := 475) rfl rfl
set_option maxRecDepth 100000 in
theorem zc62 : Cond.code (zY 62) (zCode 62) (zML 62) (zRT 62) ∈ zTbl := z_t (i := 479) rfl rfl
set_option maxRecDepth 100000 in
theorem zc63 : Cond.code (zY 63) (zCode 63) (zML 63) (zRT 63) ∈ zTbl := z_t (i := 483) rfl rfl
set_option maxRecDepth 100000 in
theorem zc64 : Cond.code (zY 64) (zCode 64) (zML 64) (zRT 64) ∈ zTbl := z_t (i := 487) rfl rfl
set_option maxRecDepth 100000 in
theorem zc65 : Cond.code (zY 65) (zCode 65) (zML 65) (zRT 65) ∈ zTbl := z_t (i := 491) rfl rfl
set_option maxRecDepth 100000 in
theorem zc66 : Cond.code (zY 66) (zCode 66) (zML 66) (zRT 66) ∈ zTbl := z_t (i := 495) rfl rfl
set_option maxRecDepth 100000 in
theorem zc67 : Cond.code (zY 67) (zCode 67) (zML 67) (zRT 67) ∈ zTbl := z_t (i := 499) rfl rfl
set_option maxRecDepth 100000 in
theorem zc68 : Cond.code (zY 68) (zCode 68) (zML 68) (zRT 68) ∈ zTbl := z_t (i := 503) rfl rfl
set_option maxRecDepth 100000 in
theorem zc69 : Cond.code (zY 69) (zCode 69) (zML 69) (zRT 69) ∈ zTbl := z_t (i := 509) rfl rfl
set_option maxRecDepth 100000 in
theorem zc70 : Cond.code (zY 70) (zCode 70) (zML 70) (zRT 70) ∈ zTbl := z_t (i := 629) rfl rfl
set_option maxRecDepth 100000 in
theorem zc71 : Cond.code (zY 71) (zCode 71) (zML 71) (zRT 71) ∈ zTbl := z_t (i := 634) rfl rfl
set_option maxRecDepth 100000 in
theorem zc72 : Cond.code (zY 72) (zCode 72) (zML 72) (zRT 72) ∈ zTbl := z_t (i := 638) rfl rfl
set_option maxRecDepth 100000 in
theorem zc73 : Cond.code (zY 73) (zCode 73) (zML 73) (zRT 73) ∈ zTbl := z_t (i := 642) rfl rfl
set_option maxRecDepth 100000 in
theorem zc74 : Cond.code (zY 74) (zCode 74) (zML 74) (zRT 74) ∈ zTbl := z_t (i := 646) rfl rfl
set_option maxRecDepth 100000 in
theorem zc75 : Cond.code (zY 75) (zCode 75) (zML 75) (zRT 75) ∈ zTbl := z_t (i := 650) rfl rfl
set_option maxRecDepth 100000 in
theorem zc76 : Cond.code (zY 76) (zCode 76) (zML 76) (zRT 76) ∈ zTbl := z_t (i := 653) rfl rfl
set_option maxRecDepth 100000 in
theorem zc77 : Cond.code (zY 77) (zCode 77) (zML 77) (zRT 77) ∈ zTbl := z_t (i := 657) rfl rfl
set_option maxRecDepth 100000 in
theorem zc78 : Cond.code (zY 78) (zCode 78) (zML 78) (zRT 78) ∈ zTbl := z_t (i := 661) rfl rfl
set_option maxRecDepth 100000 in
theorem zc79 : Cond.code (zY 79) (zCode 79) (zML 79) (zRT 79) ∈ zTbl := z_t (i := 665) rfl rfl
set_option maxRecDepth 100000 in
theorem zc80 : Cond.code (zY 80) (zCode 80) (zML 80) (zRT 80) ∈ zTbl := z_t (i := 669) rfl rfl
set_option maxRecDepth 100000 in
theorem zc81 : Cond.code (zY 81) (zCode 81) (zML 81) (zRT 81) ∈ zTbl := z_t (i := 673) rfl rfl
set_option maxRecDepth 100000 in
theorem zc82 : Cond.code (zY 82) (zCode 82) (zML 82) (zRT 82) ∈ zTbl := z_t (i := 677) rfl rfl
set_option maxRecDepth 100000 in
theorem zc83 : Cond.code (zY 83) (zCode 83) (zML 83) (zRT 83) ∈ zTbl := z_t (i := 681) rfl rfl
set_option maxRecDepth 100000 in
theorem zc84 : Cond.code (zY 84) (zCode 84) (zML 84) (zRT 84) ∈ zTbl := z_t (i := 685) rfl rfl
set_option maxRecDepth 100000 in
theorem zc85 : Cond.code (zY 85) (zCode 85) (zML 85) (zRT 85) ∈ zTbl := z_t (i := 689) rfl rfl
set_option maxRecDepth 100000 in
theorem zc86 : Cond.code (zY 86) (zCode 86) (zML 86) (zRT 86) ∈ zTbl := z_t (i := 693) rfl rfl
set_option maxRecDepth 100000 in
theorem zc87 : Cond.code (zY 87) (zCode 87) (zML 87) (zRT 87) ∈ zTbl := z_t (i := 697) rfl rfl
set_option maxRecDepth 100000 in
theorem zc88 : Cond.code (zY 88) (zCode 88) (zML 88) (zRT 88) ∈ zTbl := z_t (i := 701) rfl rfl
set_option maxRecDepth 100000 in
theorem zc89 : Cond.code (zY 89) (zCode 89) (zML 89) (zRT 89) ∈ zTbl := z_t (i := 705) rfl rfl
set_option maxRecDepth 100000 in
theorem zc90 : Cond.code (zY 90) (zCode 90) (zML 90) (zRT 90) ∈ zTbl := z_t (i := 709) rfl rfl
set_option maxRecDepth 100000 in
theorem zc91 : Cond.code (zY 91) (zCode 91) (zML 91) (zRT 91) ∈ zTbl := z_t (i := 713) rfl rfl
set_option maxRecDepth 100000 in
theorem zc92 : Cond.code (zY 92) (zCode 92) (zML 92) (zRT 92) ∈ zTbl := z_t (i := 717) rfl rfl
set_option maxRecDepth 100000 in
theorem zc93 : Cond.code (zY 93) (zCode 93) (zML 93) (zRT 93) ∈ zTbl := z_t (i := 721) rfl rfl
set_option maxRecDepth 100000 in
theorem zc94 : Cond.code (zY 94) (zCode 94) (zML 94) (zRT 94) ∈ zTbl := z_t (i := 725) rfl rfl
set_option maxRecDepth 100000 in
theorem zc95 : Cond.code (zY 95) (zCode 95) (zML 95) (zRT 95) ∈ zTbl := z_t (i := 729) rfl rfl
set_option maxRecDepth 100000 in
theorem zc96 : Cond.code (zY 96) (zCode 96) (zML 96) (zRT 96) ∈ zTbl := z_t (i := 733) rfl rfl
set_option maxRecDepth 100000 in
theorem zc97 : Cond.code (zY 97) (zCode 97) (zML 97) (zRT 97) ∈ zTbl := z_t (i := 737) rfl rfl
set_option maxRecDepth 100000 in
theorem zc98 : Cond.code (zY 98) (zCode 98) (zML 98) (zRT 98) ∈ zTbl := z_t (i := 741) rfl rfl
set_option maxRecDepth 100000 in
theorem zc99 : Cond.code (zY 99) (zCode 99) (zML 99) (zRT 99) ∈ zTbl := z_t (i := 745) rfl rfl
set_option maxRecDepth 100000 in
theorem zc100 : Cond.code (zY 100) (zCode 100) (zML 100) (zRT 100) ∈ zTbl := z_t (i := 749) rfl rfl
set_option maxRecDepth 100000 in
theorem zc101 : Cond.code (zY 101) (zCode 101) (zML 101) (zRT 101) ∈ zTbl := z_t (i := 753) rfl rfl
set_option maxRecDepth 100000 in
theorem zc102 : Cond.code (zY 102) (zCode 102) (zML 102) (zRT 102) ∈ zTbl := z_t (i := 757) rfl rfl
set_option maxRecDepth 100000 in
theorem zc103 : Cond.code (zY 103) (zCode 103) (zML 103) (zRT 103) ∈ zTbl := z_t (i := 761) rfl rfl
set_option maxRecDepth 100000 in
theorem zc104 : Cond.code (zY 104) (zCode 104) (zML 104) (zRT 104) ∈ zTbl := z_t (i := 765) rfl rfl
set_option maxRecDepth 100000 in
theorem zc105 : Cond.code (zY 105) (zCode 105) (zML 105) (zRT 105) ∈ zTbl := z_t (i := 769) rfl rfl
set_option maxRecDepth 100000 in
theorem zc106 : Cond.code (zY 106) (zCode 106) (zML 106) (zRT 106) ∈ zTbl := z_t (i := 773) rfl rfl
set_option maxRecDepth 100000 in
theorem zc107 : Cond.code (zY 107) (zCode 107) (zML 107) (zRT 107) ∈ zTbl := z_t (i := 777) rfl rfl
set_option maxRecDepth 100000 in
theorem zc108 : Cond.code (zY 108) (zCode 108) (zML 108) (zRT 108) ∈ zTbl := z_t (i := 781) rfl rfl
theorem zc_all : ∀ mj, 0 < mj → mj < zLaw → Cond.code (zY mj) (zCode mj) (zML mj) (zRT mj) ∈ zTbl
  | 0, h, _ => absurd h (by decide)
  | 1, _, _ => zc1
  | 2, _, _ => zc2
  | 3, _, _ => zc3
  | 4, _, _ => zc4
  | 5, _, _ => zc5
  | 6, _, _ => zc6
  | 7, _, _ => zc7
  | 8, _, _ => zc8
  | 9, _, _ => zc9
  | 10, _, _ => zc10
  | 11, _, _ => zc11
  | 12, _, _ => zc12
  | 13, _, _ => zc13
  | 14, _, _ => zc14
  | 15, _, _ => zc15
  | 16, _, _ => zc16
  | 17, _, _ => zc17
  | 18, _, _ => zc18
  | 19, _, _ => zc19
  | 20, _, _ => zc20
  | 21, _, _ => zc21
  | 22, _, _ => zc22
  | 23, _, _ => zc23
  | 24, _, _ => zc24
  | 25, _, _ => zc25
  | 26, _, _ => zc26
  | 27, _, _ => zc27
  | 28, _, _ => zc28
  | 29, _, _ => zc29
  | 30, _, _ => zc30
  | 31, _, _ => zc31
  | 32, _, _ => zc32
  | 33, _, _ => zc33
  | 34, _, _ => zc34
  | 35, _, _ => zc35
  | 36, _, _ => zc36
  | 37, _, _ => zc37
  | 38, _, _ => zc38
  | 39, _, _ => zc39
  | 40, _, _ => zc40
  | 41, _, _ => zc41
  | 42, _, _ => zc42
  | 43, _, _ => zc43
  | 44, _, _ => zc44
  | 45, _, _ => zc45
  | 46, _, _ => zc46
  | 47, _, _ => zc47
  | 48, _, _ => zc48
  | 49, _, _ => zc49
  | 50, _, _ => zc50
  | 51, _, _ => zc51
  | 52, _, _ => zc52
  | 53, _, _ => zc53
  | 54, _, _ => zc54
  | 55, _, _ => zc55
  | 56, _, _ => zc56
  | 57, _, _ => zc57
  | 58, _, _ => zc58
  | 59, _, _ => zc59
  | 60, _, _ => zc60
  | 61, _, _ => zc61
  | 62, _, _ => zc62
  | 63, _, _ => zc63
  | 64, _, _ => zc64
  | 65, _, _ => zc65
  | 66, _, _ => zc66
  | 67, _, _ => zc67
  | 68, _, _ => zc68
  | 69, _, _ => zc69
  | 70, _, _ => zc70
  | 71, _, _ => zc71
  | 72, _, _ => zc72
  | 73, _, _ => zc73
  | 74, _, _ => zc74
  | 75, _, _ => zc75
  | 76, _, _ => zc76
  | 77, _, _ => zc77
  | 78, _, _ => zc78
  | 79, _, _ => zc79
  | 80, _, _ => zc80
  | 81, _, _ => zc81
  | 82, _, _ => zc82
  | 83, _, _ => zc83
  | 84, _, _ => zc84
  | 85, _, _ => zc85
  | 86, _, _ => zc86
  | 87, _, _ => zc87
  | 88, _, _ => zc88
  | 89, _, _ => zc89
  | 90, _, _ => zc90
  | 91, _, _ => zc91
  | 92, _, _ => zc92
  | 93, _, _ => zc93
  | 94, _, _ => zc94
  | 95, _, _ => zc95
  | 96, _, _ => zc96
  | 97, _, _ => zc97
  | 98, _, _ => zc98
  | 99, _, _ => zc99
  | 100, _, _ => zc100
  | 101, _, _ => zc101
  | 102, _, _ => zc102
  | 103, _, _ => zc103
  | 104, _, _ => zc104
  | 105, _, _ => zc105
  | 106, _, _ => zc106
  | 107, _, _ => zc107
  | 108, _, _ => zc108
  | m + 109, _, h => absurd h (by unfold zLaw; omega)
end
section
/-- methods -/
def zMk (mj : Nat) : Prop := Cond.code (zY mj) (zCode mj) (zML mj) (zRT mj) ∈ zTbl ∧ plainFor (zY mj) = true ∧ (zY mj).cls ≠ "java/lang/invoke/MethodHandle" ∧ (zY mj).cls ≠ "java/lang/invoke/VarHandle" ∧ Cond.initialized (zY mj).cls ∈ zTbl ∧ zON (zOC mj) = (zY mj).cls ∧ zML mj + 19 ≤ zKK
def zMkC (mj : Nat) : Bool := match zMkL[mj]? with
  | some q => plainFor (zY mj) && decide ((zY mj).cls ≠ "java/lang/invoke/MethodHandle") && decide ((zY mj).cls ≠ "java/lang/invoke/VarHandle") && decide (tables_1[q.2.1]? = some (Cond.initialized (zY mj).cls)) && decide (zON (zOC mj) = (zY mj).cls) && decide (zML mj + 19 ≤ zKK)
  | none => false
set_option maxRecDepth 100000 in
theorem zMkC_ok : ((List.range zLaw).drop 1).all zMkC = true := by decide +kernel
theorem zMk_ok {mj : Nat} (h0 : 0 < mj) (h1 : mj < zLaw) : zMk mj := by
  have hm : mj ∈ (List.range zLaw).drop 1 := by
    refine List.mem_of_getElem? (i := mj - 1) ?_
    rw [List.getElem?_drop, List.getElem?_range (by omega)]
    congr 1
    omega
  have h2 := List.all_eq_true.mp zMkC_ok mj hm
  unfold zMkC at h2
  split at h2
  · simp only [Bool.and_eq_true, decide_eq_true_eq] at h2
    obtain ⟨⟨⟨⟨⟨g2, g3⟩, g4⟩, g5⟩, g6⟩, g7⟩ := h2
    exact ⟨zc_all mj h0 h1, g2, g3, g4, z_t g5 rfl, g6, g7⟩
  · cases h2
/-- calls -/
def zMtC (q : Nat × Nat × Nat × Nat × Nat × Nat × Nat) : Bool :=
  match q.2.2.2.2.1, zMkL[q.2.2.1]? with
  | 3, some r => decide (tables_1[q.2.2.2.2.2.1]? = some (Cond.methodLink (zON q.1) q.2.1 Lib.objectInit)) && decide (tables_1[(zMkL.getD 0 (0, 0, 0, 0)).2.2.1]? = some (Cond.instanceMethod Lib.objectInit)) && decide (tables_1[(zMkL.getD 0 (0, 0, 0, 0)).1]? = some (Cond.code Lib.objectInit ⟨#[0xb1]⟩ 1 none))
  | how, some r => decide (0 < q.2.2.1) && decide (q.2.2.1 < zLaw) && decide ((parseMethodDescriptor (zY q.2.2.1).desc).map (fun d => d.parameters.length) = some q.2.2.2.1) && (match q.2.2.2.2.2.2 with
      | 0 => decide (tables_1[q.2.2.2.2.2.1]? = some (Cond.methodLink (zON q.1) q.2.1 (zY q.2.2.1)))
      | _ => decide (tables_1[q.2.2.2.2.2.1]? = some (Cond.methodLinkNest (zON q.1) q.2.1 (zY q.2.2.1) "StepWalk"))) && (match how with
      | 0 => decide (tables_1[r.2.2.1]? = some (Cond.instanceMethod (zY q.2.2.1))) && decide (lw_tbl[r.2.2.2]? = some (Cond.selects (zY q.2.2.1).cls (zY q.2.2.1) (zY q.2.2.1))) && (match vwCl[zOC q.2.2.1]? with | some c => decide (c.1 = (zY q.2.2.1).cls) | none => false)
      | 1 => decide (tables_1[r.2.2.1]? = some (Cond.instanceMethod (zY q.2.2.1))) && decide ((zY q.2.2.1).name = "<init>") && decide (zRT q.2.2.1 = none)
      | 2 => decide (tables_1[r.2.2.1]? = some (Cond.static (zY q.2.2.1)))
      | _ => false)
  | _, none => false
set_option maxRecDepth 100000 in
theorem zMtC_ok : zMtL.all zMtC = true := by decide +kernel
def zLk (oc idx mj : Nat) : Prop := Cond.methodLink (zON oc) idx (zY mj) ∈ zTbl ∨ ∃ host, Cond.methodLinkNest (zON oc) idx (zY mj) host ∈ zNst
theorem zMt_ok {oc idx mj n how : Nat} (h : zMt oc idx = some (mj, n, how)) :
    (how = 3 → Cond.methodLink (zON oc) idx Lib.objectInit ∈ zTbl ∧ Cond.instanceMethod Lib.objectInit ∈ zTbl ∧ Cond.code Lib.objectInit ⟨#[0xb1]⟩ 1 none ∈ zTbl) ∧
    (how < 3 → zMk mj ∧ (parseMethodDescriptor (zY mj).desc).map (fun d => d.parameters.length) = some n ∧ zLk oc idx mj ∧
      ((how = 0 ∧ Cond.instanceMethod (zY mj) ∈ zTbl ∧ Cond.selects (zY mj).cls (zY mj) (zY mj) ∈ zTbl ∧ ∃ r0, zRC mj = some (zOC mj) ∧ vwCl[zOC mj]? = some r0 ∧ r0.1 = (zY mj).cls) ∨
       (how = 1 ∧ Cond.instanceMethod (zY mj) ∈ zTbl ∧ (zY mj).name = "<init>" ∧ zRT mj = none) ∨
       (how = 2 ∧ Cond.static (zY mj) ∈ zTbl))) := by
  obtain ⟨q, hq, hk, he⟩ := z_find h
  obtain ⟨q1, q2, q3, q4, q5, q6, q7⟩ := q
  cases he
  simp only [Bool.and_eq_true, beq_iff_eq] at hk
  obtain ⟨rfl, rfl⟩ := hk
  have h1 := List.all_eq_true.mp zMtC_ok _ hq
  unfold zMtC at h1
  dsimp only at h1
  split at h1
  · simp only [Bool.and_eq_true, decide_eq_true_eq] at h1
    exact ⟨fun _ => ⟨z_t h1.1.1 rfl, z_t h1.1.2 rfl, z_t h1.2 rfl⟩, fun hh => absurd (show 3 < 3 from hh) (by decide)⟩
  · rename_i r hr
    simp only [Bool.and_eq_true, decide_eq_true_eq] at h1
    obtain ⟨⟨⟨⟨g1, g2⟩, g3⟩, g4⟩, g5⟩ := h1
    refine ⟨fun hh => ?_, fun _ => ⟨zMk_ok g1 g2, g3, ?_, ?_⟩⟩
    · subst hh; simp at g5
    · split at g4
      · exact Or.inl (z_t (of_decide_eq_true g4) rfl)
      · exact Or.inr ⟨_, z_n (of_decide_eq_true g4) rfl⟩
    · split at g5
      · simp only [Bool.and_eq_true, decide_eq_true_eq] at g5
        obtain ⟨⟨k1, k2⟩, k3⟩ := g5
        split at k3
        · rename_i c hc
          exact Or.inl ⟨rfl, z_t k1 rfl, z_l k2 rfl, c, by unfold zRC; rw [if_pos (zCl_lt8 hc)], hc, of_decide_eq_true k3⟩
        · cases k3
      · simp only [Bool.and_eq_true, decide_eq_true_eq] at g5
        exact Or.inr (Or.inl ⟨rfl, z_t g5.1.1 rfl, g5.1.2, g5.2⟩)
      · exact Or.inr (Or.inr ⟨rfl, z_t (of_decide_eq_true g5) rfl⟩)
      · cases g5
  · cases h1
end
section
/-! the rules of the pure machine: one instruction at a time, goal first -/
theorem zgo_mono {S : zS} : ∀ (n : Nat) {d mi pc : Nat} {L : List (Nat × Value)} {st : List Value} {w : zW} {r : Option Value × zW}, zgo S n d mi pc L st w = some r → zgo S (n + 1) d mi pc L st w = some r := by
  intro n
  induction n with
  | zero => intro d mi pc L st w r h; simp [zgo] at h
  | succ n ih =>
    intro d mi pc L st w r h
    rw [zgo] at h ⊢
    cases hd : decode (zCode mi) pc with
    | error x => rw [hd] at h; simp at h
    | ok q =>
      obtain ⟨ins, len⟩ := q
      rw [hd] at h
      dsimp only at h ⊢
      cases hz : zst S mi ins len pc L st w with
      | none => rw [hz] at h; simp at h
      | some q =>
        rw [hz] at h
        obtain ⟨pc', L', st', w'⟩ | ⟨mj, as, rest⟩ | v := q
        · exact ih h
        · dsimp only at h ⊢
          cases d with
          | zero => simp at h
          | succ d =>
            dsimp only at h ⊢
            cases hc : zgo S n d mj 0 (lv_args 0 as) [] w with
            | none => rw [hc] at h; simp at h
            | some q =>
              obtain ⟨v, w'⟩ := q
              rw [hc] at h
              rw [ih hc]
              exact ih h
        · exact h
theorem zgo_le {S : zS} {n m d mi pc : Nat} {L : List (Nat × Value)} {st : List Value} {w : zW} {r : Option Value × zW} (h : zgo S n d mi pc L st w = some r) (hm : n ≤ m) : zgo S m d mi pc L st w = some r := by
  induction hm with
  | refl => exact h
  | step _ ih => exact zgo_mono _ ih
section ZK
variable {S : zS} {d mi pc len : Nat} {ins : Jvm.ClassFile.Instr} {L : List (Nat × Value)} {st : List Value} {w : zW} {Post : Option Value → zW → Prop}
theorem zk_next {pc' : Nat} {L' : List (Nat × Value)} {st' : List Value} {w' : zW} (hd : decode (zCode mi) pc = .ok (ins, len)) (hz : zst S mi ins len pc L st w = some (.inl (pc', L', st', w'))) (k : zOk S d mi pc' L' st' w' Post) : zOk S d mi pc L st w Post := by
  obtain ⟨n, v, wf, h, hp⟩ := k
  exact ⟨n + 1, v, wf, by rw [zgo, hd]; dsimp only; rw [hz]; exact h, hp⟩
theorem zk_ret {v : Option Value} (hd : decode (zCode mi) pc = .ok (ins, len)) (hg : zgr ins = 5) (hz : zrt mi ins len st = some v) (k : Post v w) : zOk S d mi pc L st w Post :=
  ⟨1, v, w, by rw [zgo, hd]; simp only [zst, hg, hz, Option.map_some], k⟩
theorem zk_call {mj : Nat} {as rest : List Value} {Pc : Option Value → zW → Prop} (hd : decode (zCode mi) pc = .ok (ins, len)) (hg : zgr ins = 4) (hz : zcl mi ins len st w = some (mj, as, rest)) (hc : zOk S d mj 0 (lv_args 0 as) [] w Pc)
    (k : ∀ v w', Pc v w' → zOk S (d + 1) mi (pc + 3) L (v.toList ++ rest) w' Post) : zOk S (d + 1) mi pc L st w Post := by
  obtain ⟨n, v, wf, h, hp⟩ := hc
  obtain ⟨n2, v2, wf2, h2, hp2⟩ := k v wf hp
  refine ⟨max n n2 + 1, v2, wf2, ?_, hp2⟩
  rw [zgo, hd]
  simp only [zst, hg, hz, Option.map_some]
  rw [zgo_le h (Nat.le_max_left n n2)]
  exact zgo_le h2 (Nat.le_max_right n n2)
theorem zk_alu {st' : List Value} (hd : decode (zCode mi) pc = .ok (ins, len)) (hg : zgr ins = 0) (ha : zalu ins len st = some st') (k : zOk S d mi (pc + len) L st' w Post) : zOk S d mi pc L st w Post :=
  zk_next hd (by simp only [zst, hg, ha, Option.map_some]) k
theorem zk_loc {L' : List (Nat × Value)} {st' : List Value} (hd : decode (zCode mi) pc = .ok (ins, len)) (hg : zgr ins = 1) (ha : zloc (zML mi) ins len L st = some (L', st')) (k : zOk S d mi (pc + len) L' st' w Post) : zOk S d mi pc L st w Post :=
  zk_next hd (by simp only [zst, hg, ha, Option.map_some]) k
theorem zk_br {pc' : Nat} {st' : List Value} (hd : decode (zCode mi) pc = .ok (ins, len)) (hg : zgr ins = 2) (ha : zbr ins len pc st = some (pc', st')) (k : zOk S d mi pc' L st' w Post) : zOk S d mi pc L st w Post :=
  zk_next hd (by simp only [zst, hg, ha, Option.map_some]) k
theorem zk_hp {st' : List Value} {w' : zW} (hd : decode (zCode mi) pc = .ok (ins, len)) (hg : zgr ins = 3) (ha : zhp S mi ins len st w = some (st', w')) (k : zOk S d mi (pc + len) L st' w' Post) : zOk S d mi pc L st w Post :=
  zk_next hd (by simp only [zst, hg, ha, Option.map_some]) k
/-- a branch of two ways -/
theorem zk_if {off : Int} {tgt : Nat} {r : List Value} {b : Bool} (hd : decode (zCode mi) pc = .ok (ins, len)) (hg : zgr ins = 2) (ha : zbr ins len pc st = zbc pc off r b) (ht : (pc : Int) + off = (tgt : Int)) (kt : b = true → zOk S d mi tgt L r w Post) (kf : b = false → zOk S d mi (pc + 3) L r w Post) : zOk S d mi pc L st w Post := by
  have h0 : 0 ≤ (pc : Int) + off := by omega
  have h1 : ztg pc off = tgt := by unfold ztg; omega
  cases b with
  | true => exact zk_br hd hg (by rw [ha, zbc, if_pos h0, if_pos rfl, h1]) (kt rfl)
  | false => exact zk_br hd hg (by rw [ha, zbc, if_pos h0, if_neg (by decide)]) (kf rfl)
/-- a jump -/
theorem zk_goto {off : Int} {tgt : Nat} {r : List Value} (hd : decode (zCode mi) pc = .ok (ins, len)) (hg : zgr ins = 2) (ha : zbr ins len pc st = zbc pc off r true) (ht : (pc : Int) + off = (tgt : Int)) (kt : zOk S d mi tgt L r w Post) : zOk S d mi pc L st w Post := by
  have h0 : 0 ≤ (pc : Int) + off := by omega
  have h1 : ztg pc off = tgt := by unfold ztg; omega
  exact zk_br hd hg (by rw [ha, zbc, if_pos h0, if_pos rfl, h1]) kt
/-- a branch that isn't taken -/
theorem zk_stay {off : Int} {tgt : Nat} {r : List Value} (hd : decode (zCode mi) pc = .ok (ins, len)) (hg : zgr ins = 2) (ha : zbr ins len pc st = zbc pc off r false) (ht : (pc : Int) + off = (tgt : Int)) (kf : zOk S d mi (pc + 3) L r w Post) : zOk S d mi pc L st w Post := by
  have h0 : 0 ≤ (pc : Int) + off := by omega
  exact zk_br hd hg (by rw [ha, zbc, if_pos h0, if_neg (by decide)]) kf
theorem zk_get {idx a ci k N : Nat} {r : List Value} {v : Value} (hd : decode (zCode mi) pc = .ok (.getfield idx, 3)) (hf : zFld (zOC mi) idx = some (ci, k)) (hs : w.2.1 a = some (ci, N)) (hv : w.2.2 a k = v) (kk : zOk S d mi (pc + 3) L (v :: r) w Post) : zOk S d mi pc L (.ref a :: r) w Post :=
  zk_hp hd rfl (by simp [zhp, hf, hs, hv]) kk
theorem zk_put {idx a ci k N : Nat} {r : List Value} {v : Value} (hd : decode (zCode mi) pc = .ok (.putfield idx, 3)) (hf : zFld (zOC mi) idx = some (ci, k)) (hs : w.2.1 a = some (ci, N)) (hp : zPf mi ci k v) (kk : zOk S d mi (pc + 3) L r (zset w a k v) Post) : zOk S d mi pc L (v :: .ref a :: r) w Post :=
  zk_hp hd rfl (by simp only [zhp, hf, hs]; rw [if_pos ⟨trivial, hp⟩]) kk
theorem zk_new {idx ci : Nat} {r : List Value} (hd : decode (zCode mi) pc = .ok (.new idx, 3)) (hf : zNew (zOC mi) idx = some ci) (kk : zOk S d mi (pc + 3) L (.ref w.1.1 :: r) (zpush w ci (zN ci) (zBl ci)) Post) : zOk S d mi pc L r w Post :=
  zk_hp hd rfl (by simp only [zhp, hf]) kk
theorem zk_newa {t : Jvm.ClassFile.ArrayType} {n : Int32} {k N : Nat} {r : List Value} (hd : decode (zCode mi) pc = .ok (.newarray t, 2)) (hf : zNA t = some k) (hn : ¬ n < 0) (hN : n.toNatClampNeg = N) (hm : N ≤ 60000000) (kk : zOk S d mi (pc + 2) L (.ref w.1.1 :: r) (zpush w (100 + k) N (fun _ => defaultValue (zAK k))) Post) : zOk S d mi pc L (.int n :: r) w Post := by
  subst hN
  exact zk_hp hd rfl (by simp only [zhp, hf]; rw [if_pos ⟨hn, hm⟩]) kk
theorem zk_newq {idx k N : Nat} {n : Int32} {r : List Value} (hd : decode (zCode mi) pc = .ok (.anewarray idx, 3)) (hf : zAN (zOC mi) idx = some k) (hn : ¬ n < 0) (hN : n.toNatClampNeg = N) (hm : N ≤ 60000000) (kk : zOk S d mi (pc + 3) L (.ref w.1.1 :: r) (zpush w (100 + k) N (fun _ => .null)) Post) : zOk S d mi pc L (.int n :: r) w Post := by
  subst hN
  exact zk_hp hd rfl (by simp only [zhp, hf]; rw [if_pos ⟨hn, hm⟩]) kk
theorem zk_len {a c n : Nat} {r : List Value} (hd : decode (zCode mi) pc = .ok (.arraylength, 1)) (hs : w.2.1 a = some (c, n)) (hc : 100 ≤ c) (kk : zOk S d mi (pc + 1) L (.int (Int32.ofNat n) :: r) w Post) : zOk S d mi pc L (.ref a :: r) w Post :=
  zk_hp hd rfl (by simp only [zhp, hs]; rw [if_pos hc]) kk
theorem zk_lenS {r : List Value} (hd : decode (zCode mi) pc = .ok (.arraylength, 1)) (hs : w.2.1 S.1 = none) (kk : zOk S d mi (pc + 1) L (.int (Int32.ofNat S.2.1) :: r) w Post) : zOk S d mi pc L (.ref S.1 :: r) w Post :=
  zk_hp hd rfl (by simp only [zhp, hs]; rw [if_pos trivial]) kk
theorem zk_ildS {i : Int32} {r : List Value} (hd : decode (zCode mi) pc = .ok (.iaload, 1)) (hs : w.2.1 S.1 = none) (hi : zix i S.2.1) (kk : zOk S d mi (pc + 1) L (.int (S.2.2 i.toNatClampNeg) :: r) w Post) : zOk S d mi pc L (.int i :: .ref S.1 :: r) w Post :=
  zk_hp hd rfl (by simp only [zhp, hs]; rw [if_pos ⟨trivial, hi⟩]) kk
theorem zk_ild {a k n : Nat} {i : Int32} {v : Value} {r : List Value} (hd : decode (zCode mi) pc = .ok (.iaload, 1)) (hs : w.2.1 a = some (100 + k, n)) (ht : zAK k = .int) (hi : zix i n) (hv : w.2.2 a i.toNatClampNeg = v) (kk : zOk S d mi (pc + 1) L (v :: r) w Post) : zOk S d mi pc L (.int i :: .ref a :: r) w Post :=
  zk_hp hd rfl (by simp only [zhp, hs, hv]; rw [if_pos ⟨by omega, by rw [Nat.add_sub_cancel_left]; exact ht, hi⟩]) kk
theorem zk_lld {a k n : Nat} {i : Int32} {v : Value} {r : List Value} (hd : decode (zCode mi) pc = .ok (.laload, 1)) (hs : w.2.1 a = some (100 + k, n)) (ht : zAK k = .long) (hi : zix i n) (hv : w.2.2 a i.toNatClampNeg = v) (kk : zOk S d mi (pc + 1) L (v :: r) w Post) : zOk S d mi pc L (.int i :: .ref a :: r) w Post :=
  zk_hp hd rfl (by simp only [zhp, hs, hv]; rw [if_pos ⟨by omega, by rw [Nat.add_sub_cancel_left]; exact ht, hi⟩]) kk
theorem zk_zld {a k n : Nat} {i : Int32} {v : Value} {r : List Value} (hd : decode (zCode mi) pc = .ok (.baload, 1)) (hs : w.2.1 a = some (100 + k, n)) (ht : zAK k = .boolean) (hi : zix i n) (hv : w.2.2 a i.toNatClampNeg = v) (kk : zOk S d mi (pc + 1) L (v :: r) w Post) : zOk S d mi pc L (.int i :: .ref a :: r) w Post :=
  zk_hp hd rfl (by simp only [zhp, hs, hv]; rw [if_pos ⟨by omega, by rw [Nat.add_sub_cancel_left]; exact ht, hi⟩]) kk
theorem zk_ald {a k n : Nat} {i : Int32} {v : Value} {r : List Value} (hd : decode (zCode mi) pc = .ok (.aaload, 1)) (hs : w.2.1 a = some (100 + k, n)) (ht : (zAc k).isSome = true) (hi : zix i n) (hv : w.2.2 a i.toNatClampNeg = v) (kk : zOk S d mi (pc + 1) L (v :: r) w Post) : zOk S d mi pc L (.int i :: .ref a :: r) w Post :=
  zk_hp hd rfl (by simp only [zhp, hs, hv]; rw [if_pos ⟨by omega, by rw [Nat.add_sub_cancel_left]; exact ht, hi⟩]) kk
theorem zk_ist {a k n : Nat} {i x : Int32} {r : List Value} (hd : decode (zCode mi) pc = .ok (.iastore, 1)) (hs : w.2.1 a = some (100 + k, n)) (ht : zAK k = .int) (hi : zix i n) (kk : zOk S d mi (pc + 1) L r (zset w a i.toNatClampNeg (.int x)) Post) : zOk S d mi pc L (.int x :: .int i :: .ref a :: r) w Post :=
  zk_hp hd rfl (by simp only [zhp, hs]; rw [if_pos ⟨by omega, by rw [Nat.add_sub_cancel_left]; exact ht, hi⟩]) kk
theorem zk_lst {a k n : Nat} {i : Int32} {x : Int64} {r : List Value} (hd : decode (zCode mi) pc = .ok (.lastore, 1)) (hs : w.2.1 a = some (100 + k, n)) (ht : zAK k = .long) (hi : zix i n) (kk : zOk S d mi (pc + 1) L r (zset w a i.toNatClampNeg (.long x)) Post) : zOk S d mi pc L (.long x :: .int i :: .ref a :: r) w Post :=
  zk_hp hd rfl (by simp only [zhp, hs]; rw [if_pos ⟨by omega, by rw [Nat.add_sub_cancel_left]; exact ht, hi⟩]) kk
theorem zk_zst {a k n : Nat} {i x : Int32} {r : List Value} (hd : decode (zCode mi) pc = .ok (.bastore, 1)) (hs : w.2.1 a = some (100 + k, n)) (ht : zAK k = .boolean) (hx : narrow .boolean (.int x) = .int x) (hi : zix i n) (kk : zOk S d mi (pc + 1) L r (zset w a i.toNatClampNeg (.int x)) Post) : zOk S d mi pc L (.int x :: .int i :: .ref a :: r) w Post :=
  zk_hp hd rfl (by simp only [zhp, hs]; rw [if_pos ⟨by omega, by rw [Nat.add_sub_cancel_left]; exact ht, hx, hi⟩]) kk
theorem zk_ast {a b k n cj N : Nat} {i : Int32} {r : List Value} (hd : decode (zCode mi) pc = .ok (.aastore, 1)) (hs : w.2.1 a = some (100 + k, n)) (hb : w.2.1 b = some (cj, N)) (ht : zAc k = some cj) (hi : zix i n) (kk : zOk S d mi (pc + 1) L r (zset w a i.toNatClampNeg (.ref b)) Post) : zOk S d mi pc L (.ref b :: .int i :: .ref a :: r) w Post :=
  zk_hp hd rfl (by simp only [zhp, hs, hb]; rw [if_pos ⟨by omega, by rw [Nat.add_sub_cancel_left]; exact ht, hi⟩]) kk
theorem zOk.mono {Q : Option Value → zW → Prop} (h : zOk S d mi pc L st w Post) (hq : ∀ v w', Post v w' → Q v w') : zOk S d mi pc L st w Q := by
  obtain ⟨n, v, wf, h1, h2⟩ := h
  exact ⟨n, v, wf, h1, hq v wf h2⟩
end ZK
theorem zgo_deep {S : zS} : ∀ (n : Nat) {d mi pc : Nat} {L : List (Nat × Value)} {st : List Value} {w : zW} {r : Option Value × zW}, zgo S n d mi pc L st w = some r → zgo S n (d + 1) mi pc L st w = some r := by
  intro n
  induction n with
  | zero => intro d mi pc L st w r h; simp [zgo] at h
  | succ n ih =>
    intro d mi pc L st w r h
    rw [zgo] at h ⊢
    cases hd : decode (zCode mi) pc with
    | error x => rw [hd] at h; simp at h
    | ok q =>
      obtain ⟨ins, len⟩ := q
      rw [hd] at h
      dsimp only at h ⊢
      cases hz : zst S mi ins len pc L st w with
      | none => rw [hz] at h; simp at h
      | some q =>
        rw [hz] at h
        obtain ⟨pc', L', st', w'⟩ | ⟨mj, as, rest⟩ | v := q
        · exact ih h
        · dsimp only at h ⊢
          cases d with
          | zero => simp at h
          | succ d =>
            dsimp only at h ⊢
            cases hc : zgo S n d mj 0 (lv_args 0 as) [] w with
            | none => rw [hc] at h; simp at h
            | some q =>
              obtain ⟨v, w'⟩ := q
              rw [hc] at h
              rw [ih hc]
              exact ih h
        · exact h
theorem zOk.deep {S : zS} {d d2 mi pc : Nat} {L : List (Nat × Value)} {st : List Value} {w : zW} {Post : Option Value → zW → Prop} (h : zOk S d mi pc L st w Post) (hd : d ≤ d2) : zOk S d2 mi pc L st w Post := by
  obtain ⟨n, v, wf, h1, h2⟩ := h
  refine ⟨n, v, wf, ?_, h2⟩
  induction hd with
  | refl => exact h1
  | step _ ih => exact zgo_deep n ih
end
section
/-! the pure machine's steps are the machine's: stack, locals, branches -/
theorem zlk_mem {i : Nat} {v : Value} : ∀ {L : List (Nat × Value)}, zlk i L = some v → (i, v) ∈ L := by
  intro L
  induction L with
  | nil => intro h; simp [zlk] at h
  | cons q t ih =>
    intro h
    obtain ⟨j, u⟩ := q
    rw [zlk] at h
    by_cases hj : j = i
    · rw [if_pos hj] at h
      cases h
      subst hj
      exact List.mem_cons_self
    · rw [if_neg hj] at h
      exact List.mem_cons_of_mem _ (ih h)
theorem zbc_inv {pc : Nat} {off : Int} {r : List Value} {b : Bool} {pc' : Nat} {st' : List Value} (h : zbc pc off r b = some (pc', st')) : (pc : Int) + off = (ztg pc off : Int) ∧ r = st' ∧ (if b = true then ztg pc off else pc + 3) = pc' := by
  unfold zbc at h
  split at h
  · rename_i h0
    cases h
    exact ⟨by unfold ztg; omega, rfl, rfl⟩
  · cases h
section ZSIM1
variable {p : Program} {l : Launch} {e : Env} {R : Room} {s : State} {m : MethodId} {args : Array Value} {below : List Frame} {meth : Method} {c : Code} {H : Heap} {locs : List Loc} {cells slots : Nat} {Q : State → Prop}
variable {cc : ByteArray} {pc len : Nat} {ls : Array Slot} {ins : Jvm.ClassFile.Instr}
set_option maxHeartbeats 4000000 in
theorem zs_alu {st st' : List Value} (hx : p.tables.exec = Jvm.exec) (hb : c.code = cc) (hd : decode cc pc = .ok (ins, len)) (h : zalu ins len st = some st')
    (k : W p l e R s m args below meth c H locs cells slots Q (F0 m (pc + len) ls st')) : W p l e R s m args below meth c H locs cells slots Q (F0 m pc ls st) := by
  unfold zalu at h
  split at h
  · cases h; exact lv_iconst hx hb hd rfl k
  · cases h; exact lv_bipush hx hb hd rfl k
  · cases h; exact lv_sipush hx hb hd rfl k
  · cases h; exact lv_lconst hx hb hd rfl k
  · cases h; exact lv_null hx hb hd k
  · cases h; exact lv_iadd hx hb hd k
  · cases h; exact lv_isub hx hb hd k
  · cases h; exact lv_imul hx hb hd k
  · split at h
    · cases h
    · cases h; exact lv_idiv hx hb hd (by assumption) k
  · split at h
    · cases h
    · cases h; exact lv_irem hx hb hd (by assumption) k
  · cases h; exact lv_ineg hx hb hd k
  · cases h; exact lv_iand hx hb hd k
  · cases h; exact lv_ior hx hb hd k
  · cases h; exact lv_ixor hx hb hd k
  · cases h; exact lv_ishl hx hb hd k
  · cases h; exact lv_ishr hx hb hd k
  · cases h; exact lv_iushr hx hb hd rfl k
  · cases h; exact lv_ladd hx hb hd k
  · cases h; exact lv_lsub hx hb hd k
  · cases h; exact lv_lmul hx hb hd k
  · split at h
    · cases h
    · cases h; exact lv_ldiv hx hb hd (by assumption) k
  · split at h
    · cases h
    · cases h; exact lv_lrem hx hb hd (by assumption) k
  · cases h; exact lv_lneg hx hb hd k
  · cases h; exact lv_land hx hb hd k
  · cases h; exact lv_lor hx hb hd k
  · cases h; exact lv_lxor hx hb hd k
  · cases h; exact lv_lshl hx hb hd rfl k
  · cases h; exact lv_lshr hx hb hd rfl k
  · cases h; exact lv_lushr hx hb hd rfl k
  · cases h; exact lv_i2l hx hb hd rfl k
  · cases h; exact lv_l2i hx hb hd rfl k
  · cases h; exact W.lcmp hx hb hd k
  · split at h
    · cases h; exact lv_dup hx hb hd (by assumption) k
    · cases h
  · split at h
    · cases h; exact lv_pop hx hb hd (by assumption) k
    · cases h
  · split at h
    · rename_i hc; cases h; exact lv_dup_x1 hx hb hd hc.1 hc.2 k
    · cases h
  · split at h
    · rename_i hc; cases h; exact lv_dup_x2 hx hb hd hc.1 hc.2.1 hc.2.2 k
    · cases h
  · cases h
set_option maxHeartbeats 4000000 in
theorem zs_loc {nL : Nat} {L L' : List (Nat × Value)} {st st' : List Value} (hx : p.tables.exec = Jvm.exec) (hb : c.code = cc) (hd : decode cc pc = .ok (ins, len)) (hl : lv_has ls nL L) (h : zloc nL ins len L st = some (L', st'))
    (k : ∀ ls' : Array Slot, lv_has ls' nL L' → W p l e R s m args below meth c H locs cells slots Q (F0 m (pc + len) ls' st')) : W p l e R s m args below meth c H locs cells slots Q (F0 m pc ls st) := by
  have at' : ∀ {i : Nat} {v : Value}, zlk i L = some v → ls[i]? = some (.val v) := fun h => hl.2.2 _ (zlk_mem h)
  unfold zloc at h
  split at h
  · split at h
    · rename_i hz; cases h; exact lv_iload_n hx hb hd rfl (at' hz) (k ls hl)
    · cases h
  · split at h
    · rename_i hz; cases h; exact lv_iload hx hb hd (at' hz) (k ls hl)
    · cases h
  · split at h
    · rename_i hz; cases h; exact lv_lload_n hx hb hd rfl (at' hz) (k ls hl)
    · cases h
  · split at h
    · rename_i hz; cases h; exact lv_lload hx hb hd (at' hz) (k ls hl)
    · cases h
  · split at h
    · rename_i hz; cases h; exact lv_aload_n hx hb hd rfl (at' hz) (k ls hl)
    · rename_i hz; cases h; exact lv_aload_nN hx hb hd rfl (at' hz) (k ls hl)
    · cases h
  · split at h
    · rename_i hz; cases h; exact lv_aload hx hb hd (at' hz) (k ls hl)
    · rename_i hz; cases h; exact lv_aloadN hx hb hd (at' hz) (k ls hl)
    · cases h
  · split at h
    · rename_i hn; cases h; exact lv_istore_n hx hb hd rfl hl hn rfl k
    · cases h
  · split at h
    · rename_i hn; cases h; exact lv_istore hx hb hd hl hn rfl k
    · cases h
  · split at h
    · rename_i hn; cases h; exact lv_lstore_n hx hb hd rfl hl hn rfl k
    · cases h
  · split at h
    · rename_i hn; cases h; exact lv_lstore hx hb hd hl hn rfl k
    · cases h
  · split at h
    · rename_i hn; cases h; exact lv_astore_n hx hb hd rfl hl hn rfl k
    · cases h
  · split at h
    · rename_i hn; cases h; exact lv_astore_nN hx hb hd rfl hl hn rfl k
    · cases h
  · split at h
    · rename_i hn; cases h; exact lv_astore hx hb hd hl hn rfl k
    · cases h
  · split at h
    · rename_i hn; cases h; exact lv_astoreN hx hb hd hl hn rfl k
    · cases h
  · split at h
    · rename_i hz
      split at h
      · rename_i hn
        cases h
        obtain ⟨j, hj⟩ := List.getElem?_of_mem (zlk_mem hz)
        exact lv_iinc hx hb hd hl hj rfl hn rfl k
      · cases h
    · cases h
  · cases h
set_option maxHeartbeats 4000000 in
theorem zs_br {st st' : List Value} {pc' : Nat} (hx : p.tables.exec = Jvm.exec) (hb : c.code = cc) (hd : decode cc pc = .ok (ins, len)) (h : zbr ins len pc st = some (pc', st'))
    (k : W p l e R s m args below meth c H locs cells slots Q (F0 m pc' ls st')) : W p l e R s m args below meth c H locs cells slots Q (F0 m pc ls st) := by
  unfold zbr at h
  split at h
  · obtain ⟨ht, rfl, rfl⟩ := zbc_inv h
    exact lv_if_eq hx hb hd ht (fun q => by simpa [q] using k) (fun q => by simpa [q] using k)
  · obtain ⟨ht, rfl, rfl⟩ := zbc_inv h
    exact lv_if_ne hx hb hd ht (fun q => by simpa [q] using k) (fun q => by simpa [q] using k)
  · obtain ⟨ht, rfl, rfl⟩ := zbc_inv h
    exact lv_if_lt hx hb hd ht (fun q => by simpa only [q, decide_true, if_true] using k) (fun q => by simpa only [q, decide_false, Bool.false_eq_true, if_false] using k)
  · obtain ⟨ht, rfl, rfl⟩ := zbc_inv h
    exact lv_if_ge hx hb hd ht (fun q => by simpa only [q, decide_true, if_true] using k) (fun q => by simpa only [q, decide_false, Bool.false_eq_true, if_false] using k)
  · obtain ⟨ht, rfl, rfl⟩ := zbc_inv h
    exact lv_if_gt hx hb hd ht (fun q => by simpa only [q, decide_true, if_true] using k) (fun q => by simpa only [q, decide_false, Bool.false_eq_true, if_false] using k)
  · obtain ⟨ht, rfl, rfl⟩ := zbc_inv h
    exact lv_if_le hx hb hd ht (fun q => by simpa only [q, decide_true, if_true] using k) (fun q => by simpa only [q, decide_false, Bool.false_eq_true, if_false] using k)
  · obtain ⟨ht, rfl, rfl⟩ := zbc_inv h
    exact lv_icmp_eq hx hb hd ht (fun q => by simpa [q] using k) (fun q => by simpa [q] using k)
  · obtain ⟨ht, rfl, rfl⟩ := zbc_inv h
    exact lv_icmp_ne hx hb hd ht (fun q => by simpa [q] using k) (fun q => by simpa [q] using k)
  · obtain ⟨ht, rfl, rfl⟩ := zbc_inv h
    exact lv_icmp_lt hx hb hd ht (fun q => by simpa only [q, decide_true, if_true] using k) (fun q => by simpa only [q, decide_false, Bool.false_eq_true, if_false] using k)
  · obtain ⟨ht, rfl, rfl⟩ := zbc_inv h
    exact lv_icmp_ge hx hb hd ht (fun q => by simpa only [q, decide_true, if_true] using k) (fun q => by simpa only [q, decide_false, Bool.false_eq_true, if_false] using k)
  · obtain ⟨ht, rfl, rfl⟩ := zbc_inv h
    exact lv_icmp_gt hx hb hd ht (fun q => by simpa only [q, decide_true, if_true] using k) (fun q => by simpa only [q, decide_false, Bool.false_eq_true, if_false] using k)
  · obtain ⟨ht, rfl, rfl⟩ := zbc_inv h
    exact lv_icmp_le hx hb hd ht (fun q => by simpa only [q, decide_true, if_true] using k) (fun q => by simpa only [q, decide_false, Bool.false_eq_true, if_false] using k)
  · obtain ⟨ht, rfl, rfl⟩ := zbc_inv h
    exact lv_ifnull hx hb hd k
  · obtain ⟨ht, rfl, rfl⟩ := zbc_inv h
    exact lv_ifnullN hx hb hd ht k
  · obtain ⟨ht, rfl, rfl⟩ := zbc_inv h
    exact lv_ifnonnull hx hb hd ht k
  · obtain ⟨ht, rfl, rfl⟩ := zbc_inv h
    exact lv_ifnonnullN hx hb hd k
  · obtain ⟨ht, rfl, rfl⟩ := zbc_inv h
    exact lv_goto hx hb hd ht k
  · split at h
    · rename_i hr
      obtain ⟨ht, rfl, rfl⟩ := zbc_inv h
      exact lv_tableOut hx hb hd hr ht k
    · rename_i hr
      split at h
      · rename_i off ho
        obtain ⟨ht, rfl, rfl⟩ := zbc_inv h
        exact lv_tableIn hx hb hd (fun q => hr (Or.inl q)) (fun q => hr (Or.inr q)) ho ht k
      · cases h
  · split at h
    · rename_i hp
      obtain ⟨ht, rfl, rfl⟩ := zbc_inv h
      exact lv_lookup hx hb hd hp rfl ht k
    · cases h
  · cases h
end ZSIM1
end
section
/-! the pure machine's steps are the machine's: the heap -/
def zAt (D : va_G) (dA : Nat → ClassId) (a : Nat) (q : Nat × Nat) (f : Nat → Value) (H : Heap) : Prop :=
  (q.1 < 100 ∧ ∃ r : vw_C, vwCl[q.1]? = some r ∧ t_OB a (D.1 q.1) r.2.2 (D.2 q.1) H f) ∨ (100 ≤ q.1 ∧ q.1 - 100 < zNT ∧ H[a]? = some (arrV (dA (q.1 - 100)) q.2 f))
def zSt (D : va_G) (dA : Nat → ClassId) (b0 : Nat) (w : zW) (H : Heap) : Prop := H.size = w.1.1 ∧ b0 ≤ w.1.1 ∧ ∀ a q, w.2.1 a = some q → b0 ≤ a ∧ zAt D dA a q (w.2.2 a) H
def zTys (dA : Nat → ClassId) : List (ClassId × FieldType) := (List.range zNT).map fun k => (dA k, zAK k)
theorem zTys_at (dA : Nat → ClassId) {k : Nat} (h : k < zNT) : (zTys dA)[k]? = some (dA k, zAK k) := by
  unfold zTys
  rw [List.getElem?_map, List.getElem?_range h]
  rfl
theorem zAt.lt {D : va_G} {dA : Nat → ClassId} {a : Nat} {q : Nat × Nat} {f : Nat → Value} {H : Heap} (h : zAt D dA a q f H) : a < H.size := by
  rcases h with ⟨-, r, -, cell, h1, -⟩ | ⟨-, -, h1⟩
  · exact (Array.getElem?_eq_some_iff.mp h1).1
  · exact (Array.getElem?_eq_some_iff.mp h1).1
theorem zAt.kept {D : va_G} {dA : Nat → ClassId} {a : Nat} {q : Nat × Nat} {f g : Nat → Value} {H H1 : Heap} (h : zAt D dA a q f H) (hq : H1[a]? = H[a]?) (hf : f = g) : zAt D dA a q g H1 := by
  subst hf
  rcases h with ⟨h0, r, h1, h2⟩ | ⟨h0, h1, h2⟩
  · exact Or.inl ⟨h0, r, h1, h2.kept hq⟩
  · exact Or.inr ⟨h0, h1, hq.trans h2⟩
theorem zSt.put {D : va_G} {dA : Nat → ClassId} {b0 : Nat} {w : zW} {H H1 : Heap} {a k : Nat} {q : Nat × Nat} {v : Value} (h : zSt D dA b0 w H) (ha : w.2.1 a = some q) (he : zAt D dA a q (updV (w.2.2 a) k v) H1) (z : H1.size = H.size) (oq : ∀ x, x ≠ a → H1[x]? = H[x]?) : zSt D dA b0 (zset w a k v) H1 := by
  refine ⟨z.trans h.1, h.2.1, fun x q' hx => ?_⟩
  have hx' : w.2.1 x = some q' := hx
  refine ⟨(h.2.2 x q' hx').1, ?_⟩
  by_cases hxa : x = a
  · subst hxa
    cases ha.symm.trans hx'
    have e : (zset w x k v).2.2 x = updV (w.2.2 x) k v := by
      funext j
      simp [zset, updV]
    rw [e]
    exact he
  · have e : (w.2.2 x) = (zset w a k v).2.2 x := by
      funext j
      simp [zset, hxa]
    exact (h.2.2 x q' hx').2.kept (oq x hxa) e
theorem zSt.push {D : va_G} {dA : Nat → ClassId} {b0 : Nat} {w : zW} {H H1 : Heap} {c n : Nat} {f : Nat → Value} (h : zSt D dA b0 w H) (he : zAt D dA w.1.1 (c, n) f H1) (z : H1.size = w.1.1 + 1) (oq : ∀ x, x < w.1.1 → H1[x]? = H[x]?) : zSt D dA b0 (zpush w c n f) H1 := by
  refine ⟨z, Nat.le_succ_of_le h.2.1, fun x q' hx => ?_⟩
  by_cases hxa : x = w.1.1
  · subst hxa
    have hx2 : (some (c, n) : Option (Nat × Nat)) = some q' := by
      have := hx
      simp only [zpush, if_true] at this
      exact this
    cases hx2
    refine ⟨h.2.1, ?_⟩
    have e : (zpush w c n f).2.2 w.1.1 = f := by
      funext j
      simp [zpush]
    rw [e]
    exact he
  · have hx' : w.2.1 x = some q' := by
      have := hx
      simp only [zpush, hxa, if_false] at this
      exact this
    obtain ⟨g1, g2⟩ := h.2.2 x q' hx'
    have e : (w.2.2 x) = (zpush w c n f).2.2 x := by
      funext j
      simp [zpush, hxa]
    exact ⟨g1, g2.kept (oq x (by have := g2.lt; rw [h.1] at this; exact this)) e⟩
/-- what holds of a state at a method's entry, beside its world: the nest's words, the classes, the script -/
def zCt (D : va_G) (dA : Nat → ClassId) (b0 : Nat) (S : zS) (U : State) : Prop :=
  (∀ w ∈ zNst, va_Nw w U) ∧ va_K D vwCl (zTys dA) U ∧ va_X S.1 S.2.1 S.2.2 U U.heap ∧ S.1 < b0 ∧ b0 ≤ U.heap.size
def zEn (D : va_G) (dA : Nat → ClassId) (b0 : Nat) (S : zS) (p : Program) (s : State) (m : MethodId) (args : Array Value) (meth : Method) (c : Code) (mi : Nat) : Prop :=
  p.tables.exec = Jvm.exec ∧ c.code = zCode mi ∧ c.maxLocals = zML mi ∧ meth.sig.returnType = zRT mi ∧ meth.locks = false ∧ s.vm.findClass (zON (zOC mi)) = some m.cls ∧ ((zY mi).name = "<init>" → meth.name = "<init>") ∧ (∀ w ∈ zTbl, w.before args s = true) ∧ zCt D dA b0 S s
section ZSIM2
variable {p : Program} {l : Launch} {e : Env} {R : Room} {s : State} {m : MethodId} {args : Array Value} {below : List Frame} {meth : Method} {c : Code} {H : Heap} {locs : List Loc} {cells slots : Nat} {Q : State → Prop}
variable {D : va_G} {dA : Nat → ClassId} {b0 : Nat} {S : zS} {mi pc len : Nat} {ls : Array Slot} {ins : Jvm.ClassFile.Instr}
theorem zs_get {w : zW} {idx ci k a n : Nat} {r : List Value} (E : zEn D dA b0 S p s m args meth c mi) (hw : zSt D dA b0 w H) (hd : decode (zCode mi) pc = .ok (.getfield idx, 3)) (hf : zFld (zOC mi) idx = some (ci, k)) (hs : w.2.1 a = some (ci, n))
    (kk : W p l e R s m args below meth c H locs cells slots Q (F0 m (pc + 3) ls (w.2.2 a k :: r))) : W p l e R s m args below meth c H locs cells slots Q (F0 m pc ls (.ref a :: r)) := by
  obtain ⟨hx, hb, -, -, -, hown, -, hts, hns, hK, -⟩ := E
  obtain ⟨C, T, N, hc, h100, hk, hC, hl⟩ := zFld_ok hf
  obtain ⟨hin, -⟩ := zCl_ok hc
  rcases (hw.2.2 a _ hs).2 with ⟨-, r', h1, cell, q1, q2, q3, q4⟩ | ⟨h0, -⟩
  · have hr : r' = (C, T, N) := Option.some.inj (h1.symm.trans hc)
    subst hr
    obtain ⟨hS, hfc, kC, hkC, hkind⟩ := hK.1 ci _ hc
    obtain ⟨cf, kf, fi, f, hi, hsl⟩ := hS k hk
    rw [hC] at hi
    have hst := (u_facts hfc hkC (by have := u_lays hts hin hk; rw [hC] at this; exact this) hi).1
    rcases hl with hl | ⟨host, hl⟩
    · exact W.getf hx hb hown (hts _ hl) hi hst q1 (by rw [q3]; exact fun h => by cases h) (v := w.2.2 a k) (by rw [hsl]; exact q4 k hk) rfl rfl hd kk
    · exact va_Wgetf hx hb hown (va_Nw.use rfl (hns _ hl)) hi hst q1 (by rw [q3]; exact fun h => by cases h) (v := w.2.2 a k) (by rw [hsl]; exact q4 k hk) rfl rfl hd kk
  · exact absurd h0 (Nat.not_le.mpr h100)
theorem zs_put {w : zW} {idx ci k a n : Nat} {v : Value} {r : List Value} (E : zEn D dA b0 S p s m args meth c mi) (hw : zSt D dA b0 w H) (hS0 : va_S (fun q => b0 ≤ q) s.heap H locs) (hd : decode (zCode mi) pc = .ok (.putfield idx, 3)) (hf : zFld (zOC mi) idx = some (ci, k)) (hs : w.2.1 a = some (ci, n)) (hv : zPf mi ci k v)
    (kk : ∀ (H1 : Heap) (locs1 : List Loc), zSt D dA b0 (zset w a k v) H1 → va_S (fun q => b0 ≤ q) s.heap H1 locs1 → W p l e R s m args below meth c H1 locs1 cells slots Q (F0 m (pc + 3) ls r)) : W p l e R s m args below meth c H locs cells slots Q (F0 m pc ls (v :: .ref a :: r)) := by
  obtain ⟨hx, hb, -, -, -, hown, hini, hts, hns, hK, -⟩ := E
  obtain ⟨C, T, N, hc, h100, hk, hC, hl⟩ := zFld_ok hf
  obtain ⟨hin, hty, hnm, hfi, -⟩ := zCl_ok hc
  have hap := va_apart (own := C) hts hin (zFT ci) hty hnm hK hc
  obtain ⟨ha0, hat⟩ := hw.2.2 a _ hs
  rcases hat with ⟨-, r', h1, cell, q1, q2, q3, q4⟩ | ⟨h0, -⟩
  · have hr : r' = (C, T, N) := Option.some.inj (h1.symm.trans hc)
    subst hr
    obtain ⟨hS, hfc, kC, hkC, hkind⟩ := hK.1 ci _ hc
    obtain ⟨cf, kf, fi, f, hi, hsl⟩ := hS k hk
    have hlay := hts _ (hin _ (u_in_lay hk))
    unfold u_lay at hlay
    have hst := (u_facts hfc hkC (u_lays hts hin hk) hi).1
    have fin : ∀ H' : Heap, H'[a]? = some (cell.setSlot f.slot v) → H'.size = H.size → (∀ q, q ≠ a → H'[q]? = H[q]?) → W p l e R s m args below meth c H' (locs ++ [⟨a, f.slot⟩]) cells slots Q (F0 m (pc + 3) ls r) := by
      intro H' e1 e2 e3
      rw [hsl] at e1 ⊢
      exact kk H' _ (hw.put hs (Or.inl ⟨h100, _, hc, ⟨_, e1, q2, q3, t_set q4 hap hk v⟩⟩) e2 e3) (hS0.put e2 e3 ha0)
    obtain ⟨hv1, hv2, hv3⟩ := hv
    rcases hv3 with hv3 | ⟨hv3, hoc, hnam⟩
    · rw [if_neg (by rw [hfi k hk, hv3]; decide)] at hlay
      have h6 := u_store hfc hkC hkind hlay hi (hty k hk) hv1 hv2
      rw [hC] at hi
      rcases hl with hl | ⟨host, hl⟩
      · exact W.putK hx hb (f := f) ⟨hown, hts _ hl, ⟨_, _, _, hi⟩, hst⟩ (by rw [q2]; exact h6) q1 q3 (by rw [hsl]; exact k2_hasslot (q4 k hk)) rfl rfl hd fin
      · exact va_WputK hx hb (f := f) hown (va_Nw.use rfl (hns _ hl)) hi hst (by rw [q2]; exact h6) q1 q3 (by rw [hsl]; exact k2_hasslot (q4 k hk)) rfl rfl hd fin
    · rw [if_pos (by rw [hfi k hk, hv3])] at hlay
      have hcf : m.cls = cf := by
        obtain ⟨_, _, c', _, _, _, -, -, hf', -, -, -, hown2, -⟩ := Cond.laysFinal_spec hlay
        have e1 : c' = cf := by have := hi.symm.trans hf'; simp at this; exact this.1.symm
        rw [hC, ← zON_ok hc, ← hoc] at hown2
        rw [← e1]; exact Option.some.inj (hown.symm.trans hown2)
      have h6 := u_fits hfc hkC hkind (Or.inr hlay) hi (hty k hk) hv1 hv2
      rw [hC] at hi
      rcases hl with hl | ⟨host, hl⟩
      · exact W.putFinK hx hb hown (hts _ hl) hi hst hcf (hini hnam) (by rw [q2]; exact h6) q1 q3 (by rw [hsl]; exact k2_hasslot (q4 k hk)) rfl rfl hd fin
      · have haH : a < H.size := (Array.getElem?_eq_some_iff.mp q1).1
        refine va_Wputf hx hb hown (va_Nw.use rfl (hns _ hl)) hi hst (Or.inr ⟨hcf, hini hnam⟩) q1 (by rw [q3]; exact fun h => by cases h) (by rw [hsl]; exact k2_hasslot (q4 k hk)) h6.1 (by rw [q3, q2]; exact h6.2) rfl rfl hd ?_
        exact fin _ (by simp [Array.getElem?_setIfInBounds, haH]) (by simp) (fun q hq => by simp [Array.getElem?_setIfInBounds, Ne.symm hq])
  · exact absurd h0 (Nat.not_le.mpr h100)
theorem zs_new {w : zW} {idx ci n0 k0 : Nat} {r : List Value} (E : zEn D dA b0 S p s m args meth c mi) (hw : zSt D dA b0 w H) (hS0 : va_S (fun q => b0 ≤ q) s.heap H locs) (hd : decode (zCode mi) pc = .ok (.new idx, 3)) (hf : zNew (zOC mi) idx = some ci) (hn : n0 ≤ w.1.1) (hk : k0 ≤ w.1.2) (hR : w.1.1 + 1 - n0 ≤ R.cells ∧ w.1.2 + zN ci - k0 ≤ R.slots)
    (kk : ∀ (H1 : Heap), zSt D dA b0 (zpush w ci (zN ci) (zBl ci)) H1 → va_S (fun q => b0 ≤ q) s.heap H1 locs → W p l e R s m args below meth c H1 locs (w.1.1 + 1 - n0) (w.1.2 + zN ci - k0) Q (F0 m (pc + 3) ls (.ref w.1.1 :: r))) : W p l e R s m args below meth c H locs (w.1.1 - n0) (w.1.2 - k0) Q (F0 m pc ls r) := by
  obtain ⟨hx, hb, -, -, -, hown, hini, hts, hns, hK, -⟩ := E
  obtain ⟨C, T, hc, h100, h1, h2, h3⟩ := zNew_ok hf
  obtain ⟨hin, hty, -⟩ := zCl_ok hc
  have hKn := hK.1 ci _ hc
  refine W.newcK hx hb hown (hts _ h1) (hts _ h2) (hts _ h3) rfl hd (by omega) (by omega) hKn.2.1 hw.1 fun H1 kC hkC e1 z1 o1 => ?_
  have e5 : w.1.1 - n0 + 1 = w.1.1 + 1 - n0 := by omega
  have e6 : w.1.2 - k0 + zN ci = w.1.2 + zN ci - k0 := by omega
  rw [e5, e6]
  refine kk H1 (hw.push (Or.inl ⟨h100, _, hc, ?_⟩) z1 o1) ⟨Nat.le_trans hS0.1 (by rw [z1, ← hw.1]; omega), fun q g1 g2 => ?_, hS0.2.2⟩
  · exact u_born (zFT ci) hts hin hKn hkC e1 hty
  · rw [o1 q (by rw [← hw.1]; exact Nat.lt_of_lt_of_le g1 hS0.1)]
    exact hS0.2.1 q g1 g2
theorem zs_newa {w : zW} {t : Jvm.ClassFile.ArrayType} {n : Int32} {k n0 k0 : Nat} {r : List Value} (E : zEn D dA b0 S p s m args meth c mi) (hw : zSt D dA b0 w H) (hS0 : va_S (fun q => b0 ≤ q) s.heap H locs) (hd : decode (zCode mi) pc = .ok (.newarray t, 2)) (hf : zNA t = some k) (hp : ¬ n < 0 ∧ n.toNatClampNeg ≤ 60000000) (hn : n0 ≤ w.1.1) (hk : k0 ≤ w.1.2) (hR : w.1.1 + 1 - n0 ≤ R.cells ∧ w.1.2 + n.toNatClampNeg - k0 ≤ R.slots)
    (kk : ∀ (H1 : Heap), zSt D dA b0 (zpush w (100 + k) n.toNatClampNeg (fun _ => defaultValue (zAK k))) H1 → va_S (fun q => b0 ≤ q) s.heap H1 locs → W p l e R s m args below meth c H1 locs (w.1.1 + 1 - n0) (w.1.2 + n.toNatClampNeg - k0) Q (F0 m (pc + 2) ls (.ref w.1.1 :: r))) : W p l e R s m args below meth c H locs (w.1.1 - n0) (w.1.2 - k0) Q (F0 m pc ls (.int n :: r)) := by
  obtain ⟨hx, hb, -, -, -, hown, hini, hts, hns, hK, -⟩ := E
  obtain ⟨hkN, hty, hwd, hcb, hnm⟩ := zNA_ok hf
  refine va_newaK hx hb (hts _ hwd) rfl hd rfl hp.1 rfl (by have := hp.2; have := Nat.mul_le_mul this hcb; omega) (by omega) (by omega) hw.1 fun H1 cA e1 z1 o1 hAr hNm => ?_
  have e5 : w.1.1 - n0 + 1 = w.1.1 + 1 - n0 := by omega
  have e6 : w.1.2 - k0 + n.toNatClampNeg = w.1.2 + n.toNatClampNeg - k0 := by omega
  rw [e5, e6]
  have hcA : cA = dA k := by
    have h9 := (hK.2 k _ (zTys_at dA hkN)).2
    rw [← hty] at h9
    have h8 : s.vm.findClass ("[" ++ (newarray.typeOf t).toString) = some (dA k) := by
      cases t <;> exact h9
    exact Option.some.inj (hNm.symm.trans h8)
  refine kk H1 (hw.push (Or.inr ⟨by omega, by rw [Nat.add_sub_cancel_left]; exact hkN, ?_⟩) z1 o1) ⟨Nat.le_trans hS0.1 (by rw [z1, ← hw.1]; omega), fun q g1 g2 => ?_, hS0.2.2⟩
  · rw [Nat.add_sub_cancel_left, ← hcA, ← hty]
    exact e1
  · rw [o1 q (by rw [← hw.1]; exact Nat.lt_of_lt_of_le g1 hS0.1)]
    exact hS0.2.1 q g1 g2
theorem zs_newq {w : zW} {idx k n0 k0 : Nat} {n : Int32} {r : List Value} (E : zEn D dA b0 S p s m args meth c mi) (hw : zSt D dA b0 w H) (hS0 : va_S (fun q => b0 ≤ q) s.heap H locs) (hd : decode (zCode mi) pc = .ok (.anewarray idx, 3)) (hf : zAN (zOC mi) idx = some k) (hp : ¬ n < 0 ∧ n.toNatClampNeg ≤ 60000000) (hn : n0 ≤ w.1.1) (hk : k0 ≤ w.1.2) (hR : w.1.1 + 1 - n0 ≤ R.cells ∧ w.1.2 + n.toNatClampNeg - k0 ≤ R.slots)
    (kk : ∀ (H1 : Heap), zSt D dA b0 (zpush w (100 + k) n.toNatClampNeg (fun _ => .null)) H1 → va_S (fun q => b0 ≤ q) s.heap H1 locs → W p l e R s m args below meth c H1 locs (w.1.1 + 1 - n0) (w.1.2 + n.toNatClampNeg - k0) Q (F0 m (pc + 3) ls (.ref w.1.1 :: r))) : W p l e R s m args below meth c H locs (w.1.1 - n0) (w.1.2 - k0) Q (F0 m pc ls (.int n :: r)) := by
  obtain ⟨hx, hb, -, -, -, hown, hini, hts, hns, hK, -⟩ := E
  obtain ⟨C, hkN, hty, hcl, hov⟩ := zAN_ok hf
  refine W.anew hx hb hown (hts _ hcl) (va_AO.use (hns _ hov)) rfl hd rfl hp.1 (by omega) (by omega) (by omega) fun cA kA comp f1 f2 f3 f4 => ?_
  have e5 : w.1.1 - n0 + 1 = w.1.1 + 1 - n0 := by omega
  have e6 : w.1.2 - k0 + n.toNatClampNeg = w.1.2 + n.toNatClampNeg - k0 := by omega
  rw [e5, e6, hw.1]
  generalize hH1 : H.push ({ cls := cA, slots := Array.replicate n.toNatClampNeg .null, vm := .none } : Cell) = H1
  have z1 : H1.size = w.1.1 + 1 := by rw [← hH1, Array.size_push, hw.1]
  have e1 : H1[w.1.1]? = some (arrV cA n.toNatClampNeg (fun _ => .null)) := by rw [← hH1, ← hw.1, Array.getElem?_push_size, ← arrV_new]
  have o1 : ∀ q : Nat, q < w.1.1 → H1[q]? = H[q]? := fun q hq => by rw [← hH1, Array.getElem?_push, if_neg (by rw [hw.1]; exact Nat.ne_of_lt hq)]
  have hcA : cA = dA k := by
    have h9 := (hK.2 k _ (zTys_at dA hkN)).2
    rw [hty] at h9
    obtain ⟨_, _, _, _, _, h8⟩ := h9
    exact Option.some.inj (f1.symm.trans h8)
  refine kk H1 (hw.push (Or.inr ⟨by omega, by rw [Nat.add_sub_cancel_left]; exact hkN, ?_⟩) z1 o1) ⟨Nat.le_trans hS0.1 (by rw [z1, ← hw.1]; omega), fun q g1 g2 => ?_, hS0.2.2⟩
  · rw [Nat.add_sub_cancel_left, ← hcA]
    exact e1
  · rw [o1 q (by rw [← hw.1]; exact Nat.lt_of_lt_of_le g1 hS0.1)]
    exact hS0.2.1 q g1 g2
theorem zs_arr {w : zW} {a ct n : Nat} (hw : zSt D dA b0 w H) (hs : w.2.1 a = some (ct, n)) (h100 : 100 ≤ ct) : ct - 100 < zNT ∧ H[a]? = some (arrV (dA (ct - 100)) n (w.2.2 a)) := by
  rcases (hw.2.2 a _ hs).2 with ⟨h0, -⟩ | ⟨-, h1, h2⟩
  · exact absurd h100 (Nat.not_le.mpr h0)
  · exact ⟨h1, h2⟩
theorem zs_ast {w : zW} {a ct n j : Nat} {v : Value} (hw : zSt D dA b0 w H) (hS0 : va_S (fun q => b0 ≤ q) s.heap H locs) (hs : w.2.1 a = some (ct, n)) (h100 : 100 ≤ ct) {H1 : Heap} (e1 : H1[a]? = some ((arrV (dA (ct - 100)) n (w.2.2 a)).setSlot j v)) (z : H1.size = H.size) (oq : ∀ q, q ≠ a → H1[q]? = H[q]?) : zSt D dA b0 (zset w a j v) H1 ∧ va_S (fun q => b0 ≤ q) s.heap H1 (locs ++ [⟨a, j⟩]) := by
  obtain ⟨hN, -⟩ := zs_arr hw hs h100
  rw [arrV_store] at e1
  exact ⟨hw.put hs (Or.inr ⟨h100, hN, e1⟩) z oq, hS0.put z oq (hw.2.2 a _ hs).1⟩
end ZSIM2
end
section
/-! the pure machine's steps are the machine's: every step of the heap; calls; whole runs -/
section ZSIM3
variable {p : Program} {l : Launch} {e : Env} {R : Room} {s : State} {m : MethodId} {args : Array Value} {below : List Frame} {meth : Method} {c : Code} {H : Heap} {locs : List Loc} {cells slots : Nat} {Q : State → Prop}
variable {D : va_G} {dA : Nat → ClassId} {b0 : Nat} {S : zS} {mi pc len : Nat} {ls : Array Slot} {ins : Jvm.ClassFile.Instr}
set_option maxHeartbeats 4000000 in
theorem zs_hp {w w' : zW} {st st' : List Value} {n0 k0 : Nat} (E : zEn D dA b0 S p s m args meth c mi) (hw : zSt D dA b0 w H) (hS0 : va_S (fun q => b0 ≤ q) s.heap H locs) (hd : decode (zCode mi) pc = .ok (ins, len)) (h : zhp S mi ins len st w = some (st', w')) (hn : n0 ≤ w.1.1) (hk : k0 ≤ w.1.2) (hR : w'.1.1 - n0 ≤ R.cells ∧ w'.1.2 - k0 ≤ R.slots)
    (kk : ∀ (H1 : Heap) (locs1 : List Loc), zSt D dA b0 w' H1 → va_S (fun q => b0 ≤ q) s.heap H1 locs1 → W p l e R s m args below meth c H1 locs1 (w'.1.1 - n0) (w'.1.2 - k0) Q (F0 m (pc + len) ls st')) : W p l e R s m args below meth c H locs (w.1.1 - n0) (w.1.2 - k0) Q (F0 m pc ls st) := by
  have E0 := E
  obtain ⟨hx, hb, -, -, -, hown, hini, hts, hns, hK, hX, hSb, hbs⟩ := E0
  have hA : ∀ {k : Nat}, k < zNT → ArrOfT s (dA k) (zAK k) := fun h => (hK.2 _ _ (zTys_at dA h)).1
  unfold zhp at h
  split at h
  -- getfield
  · split at h
    · rename_i hf hs
      split at h
      · rename_i hc; cases h; subst hc; exact zs_get E hw hd hf hs (kk H locs hw hS0)
      · cases h
    · cases h
  -- putfield
  · split at h
    · rename_i hf hs
      split at h
      · rename_i hc; cases h; obtain ⟨rfl, hc⟩ := hc; exact zs_put E hw hS0 hd hf hs hc kk
      · cases h
    · cases h
  -- new
  · split at h
    · rename_i hf; cases h; exact zs_new E hw hS0 hd hf hn hk hR (fun H1 h1 h2 => kk H1 locs h1 h2)
    · cases h
  -- newarray
  · split at h
    · rename_i hf
      split at h
      · rename_i hp; cases h; exact zs_newa E hw hS0 hd hf hp hn hk hR (fun H1 h1 h2 => kk H1 locs h1 h2)
      · cases h
    · cases h
  -- anewarray
  · split at h
    · rename_i hf
      split at h
      · rename_i hp; cases h; exact zs_newq E hw hS0 hd hf hp hn hk hR (fun H1 h1 h2 => kk H1 locs h1 h2)
      · cases h
    · cases h
  -- arraylength
  · split at h
    · rename_i hs
      split at h
      · rename_i hc; cases h
        obtain ⟨hN, hcell⟩ := zs_arr hw hs hc
        exact W.alen hx hb hcell (hA hN _ _) (by rw [arrV_size]) rfl rfl hd (kk H locs hw hS0)
      · cases h
    · split at h
      · rename_i hc; cases h; subst hc
        exact va_slen hx hb hX (Nat.lt_of_lt_of_le hSb hbs) (Nat.not_le.mpr hSb) hS0 hd (kk H locs hw hS0)
      · cases h
  -- iaload
  · split at h
    · rename_i hs
      split at h
      · rename_i hc; cases h
        obtain ⟨hN, hcell⟩ := zs_arr hw hs hc.1
        exact W.iald hx hb hcell (by have := hA hN; rw [hc.2.1] at this; exact this _ _) (fun q => by cases q) (by rw [arrV_size]; exact hc.2.2) (arrV_read _ _ (Nat.not_le.mp fun q => hc.2.2 (Or.inr q))) rfl rfl hd (kk H locs hw hS0)
      · cases h
    · split at h
      · rename_i hc; cases h; obtain ⟨rfl, hc⟩ := hc
        exact va_sld hx hb hX (Nat.lt_of_lt_of_le hSb hbs) (Nat.not_le.mpr hSb) hS0 hc hd (kk H locs hw hS0)
      · cases h
  -- laload
  · split at h
    · rename_i hs
      split at h
      · rename_i hc; cases h
        obtain ⟨hN, hcell⟩ := zs_arr hw hs hc.1
        exact W.lald hx hb hcell (by have := hA hN; rw [hc.2.1] at this; exact this _ _) (fun q => by cases q) (by rw [arrV_size]; exact hc.2.2) (arrV_read _ _ (Nat.not_le.mp fun q => hc.2.2 (Or.inr q))) rfl rfl hd (kk H locs hw hS0)
      · cases h
    · cases h
  -- baload
  · split at h
    · rename_i hs
      split at h
      · rename_i hc; cases h
        obtain ⟨hN, hcell⟩ := zs_arr hw hs hc.1
        exact W.zald hx hb hcell (by have := hA hN; rw [hc.2.1] at this; exact this _ _) (fun q => by cases q) (by rw [arrV_size]; exact hc.2.2) (arrV_read _ _ (Nat.not_le.mp fun q => hc.2.2 (Or.inr q))) rfl rfl hd (kk H locs hw hS0)
      · cases h
    · cases h
  -- aaload
  · split at h
    · rename_i hs
      split at h
      · rename_i hc; cases h
        obtain ⟨hN, hcell⟩ := zs_arr hw hs hc.1
        obtain ⟨cj, hj⟩ := Option.isSome_iff_exists.mp hc.2.1
        obtain ⟨r0, hr1, hr2⟩ := zAc_ok hj
        exact W.aald (ty := .object r0.1) hx hb hcell (by have := hA hN; rw [hr2] at this; exact this _ _) rfl (fun q => by cases q) (by rw [arrV_size]; exact hc.2.2) (arrV_read _ _ (Nat.not_le.mp fun q => hc.2.2 (Or.inr q))) rfl rfl hd (kk H locs hw hS0)
      · cases h
    · cases h
  -- iastore
  · split at h
    · rename_i hs
      split at h
      · rename_i hc; cases h
        obtain ⟨hN, hcell⟩ := zs_arr hw hs hc.1
        refine W.iast hx hb hcell (by have := hA hN; rw [hc.2.1] at this; exact this _ _) (fun q => by cases q) (by rw [arrV_size]; exact hc.2.2) rfl rfl hd fun H1 e1 z oq => ?_
        obtain ⟨g1, g2⟩ := zs_ast hw hS0 hs hc.1 e1 z oq
        exact kk H1 _ g1 g2
      · cases h
    · cases h
  -- lastore
  · split at h
    · rename_i hs
      split at h
      · rename_i hc; cases h
        obtain ⟨hN, hcell⟩ := zs_arr hw hs hc.1
        refine W.last hx hb hcell (by have := hA hN; rw [hc.2.1] at this; exact this _ _) (fun q => by cases q) (by rw [arrV_size]; exact hc.2.2) rfl rfl hd fun H1 e1 z oq => ?_
        obtain ⟨g1, g2⟩ := zs_ast hw hS0 hs hc.1 e1 z oq
        exact kk H1 _ g1 g2
      · cases h
    · cases h
  -- bastore
  · split at h
    · rename_i hs
      split at h
      · rename_i hc; cases h
        obtain ⟨hN, hcell⟩ := zs_arr hw hs hc.1
        refine W.zast hx hb hcell (by have := hA hN; rw [hc.2.1] at this; exact this _ _) (fun q => by cases q) (by rw [arrV_size]; exact hc.2.2.2) rfl rfl hd fun H1 e1 z oq => ?_
        rw [hc.2.2.1] at e1
        obtain ⟨g1, g2⟩ := zs_ast hw hS0 hs hc.1 e1 z oq
        exact kk H1 _ g1 g2
      · cases h
    · cases h
  -- aastore
  · split at h
    · rename_i hs hv
      split at h
      · rename_i hc; cases h
        obtain ⟨hN, hcell⟩ := zs_arr hw hs hc.1
        obtain ⟨r0, hr1, hr2⟩ := zAc_ok hc.2.1
        rcases (hw.2.2 _ _ hv).2 with ⟨-, r', h1, cellV, q1, q2, q3, -⟩ | ⟨h0, -⟩
        · have hcls := (hK.1 _ r0 hr1).2
          have hra := (hK.2 _ _ (zTys_at dA hN)).2
          rw [hr2] at hra
          obtain ⟨kA, comp, k1, k2, k3, -⟩ := hra
          have hcomp : comp = D.1 _ := Option.some.inj (k3.symm.trans hcls.1)
          subst hcomp
          obtain ⟨kC, hkC, -⟩ := hcls.2
          refine W.aast hx hb hcell (fun q h => by cases h) (fun h => by cases h) k1 k2 rfl hkC ⟨fun q => hc.2.2 (Or.inl q), by rw [arrV_size]; exact Nat.not_le.mp fun q => hc.2.2 (Or.inr q)⟩ q1 (fun q h => by rw [q3] at h; cases h) (by rw [q2]; exact hkC) (by rw [q2]; exact va_assign hcls) rfl rfl hd fun H1 e1 z oq => ?_
          obtain ⟨g1, g2⟩ := zs_ast hw hS0 hs hc.1 e1 z oq
          exact kk H1 _ g1 g2
        · exact absurd h0 (Nat.not_le.mpr (zAc_lt hc.2.1))
      · cases h
    · cases h
  -- ldc
  · split at h
    · rename_i hf; cases h; exact lv_ldc hx hb hown (hts _ (zLd_ok hf)) hd (kk H locs hw hS0)
    · cases h
  -- ldc2_w
  · split at h
    · rename_i hf; cases h; exact lv_ldc2 hx hb hown (hts _ (zLd2_ok hf)) hd (kk H locs hw hS0)
    · cases h
  · cases h
/-- a run's end -/
def zQ (D : va_G) (dA : Nat → ClassId) (b0 : Nat) (v : Option Value) (w : zW) : Array Value → State → Outcome → State → Prop := fun _ st o t => o = .returned v ∧ zSt D dA b0 w t.heap ∧ va_F (fun q => b0 ≤ q) st t
def zPc (D : va_G) (dA : Nat → ClassId) (b0 : Nat) (S : zS) (w : zW) (as : List Value) : Array Value → State → Prop := va_Pc as fun U => zSt D dA b0 w U.heap ∧ zCt D dA b0 S U
theorem zCt.moved {u U : State} (hW : u.WarmedH U.vm) (hh : U.heap[S.1]? = u.heap[S.1]?) (hz : b0 ≤ U.heap.size) (h : zCt D dA b0 S u) : zCt D dA b0 S U :=
  ⟨zNst_warm hW h.1, va_K.moved hW.alike h.2.1, (h.2.2.1.moved hW.alike).kept hh, h.2.2.2.1, hz⟩
theorem zPc.blind {w : zW} {as : List Value} : FrameBlind (zPc D dA b0 S w as) := by
  intro a U g mk ⟨h1, h2, h3, h4, h5, h6, h7⟩
  exact ⟨h1, h2, zNst_same (s := U) (U := U.calling g mk a) rfl h3, va_K.moved (u := U) (U := U.calling g mk a) (Vm.Alike.refl U.vm) h4, va_X.moved (u := U) (U := U.calling g mk a) (Vm.Alike.refl U.vm) h5, h6, h7⟩
theorem z_after {v : Option Value} {w' : zW} {as : Array Value} {st0 rest : List Value} {mc ms : Nat} (hr : va_Run p l e R s m args below meth c H locs cells slots mc ms (F0 m pc ls st0) rest (zQ D dA b0 v w' as) (fun q => b0 ≤ q)) (hS : va_S (fun q => b0 ≤ q) s.heap H locs)
    (kk : ∀ (H1 : Heap) (locs1 : List Loc), zSt D dA b0 w' H1 → va_S (fun q => b0 ≤ q) s.heap H1 locs1 → W p l e R s m args below meth c H1 locs1 (cells + mc) (slots + ms) Q (F0 m (pc + 3) ls (v.toList ++ rest))) : W p l e R s m args below meth c H locs cells slots Q (F0 m pc ls st0) := by
  intro T hT X
  obtain ⟨v1, st₀, t, T', L, h0, X', hL, e1, e2, ⟨hv, hz, hF⟩, st⟩ := hr T hT X
  cases hv
  obtain ⟨hF1, hF2⟩ := hF
  rw [h0] at hF1 hF2
  obtain ⟨t2, a1, b1⟩ := kk T'.heap (locs ++ L) (by rw [e1]; exact hz)
    ⟨Nat.le_trans hS.1 (by rw [e1]; exact hF1), fun q h1 h2 => by rw [e1, hF2 q (Nat.lt_of_lt_of_le h1 hS.1) h2]; exact hS.2.1 q h1 h2, fun q hq => by
      rcases List.mem_append.mp hq with h | h
      · exact hS.2.2 q h
      · exact hL q h⟩ T' rfl X'
  exact ⟨t2, st t2 a1, b1⟩
end ZSIM3
end
section
/-! the pure machine's runs are the machine's -/
theorem zhp_grow {S : zS} {mi len : Nat} {ins : Jvm.ClassFile.Instr} {st st' : List Value} {w w' : zW} (h : zhp S mi ins len st w = some (st', w')) : w.1.1 ≤ w'.1.1 ∧ w.1.2 ≤ w'.1.2 := by
  unfold zhp at h
  (repeat' split at h) <;> first
    | (cases h; exact ⟨Nat.le_refl _, Nat.le_refl _⟩)
    | (cases h; exact ⟨Nat.le_succ _, Nat.le_add_right _ _⟩)
    | cases h
theorem zgo_grow {S : zS} : ∀ (n : Nat) {d mi pc : Nat} {L : List (Nat × Value)} {st : List Value} {w wf : zW} {r : Option Value}, zgo S n d mi pc L st w = some (r, wf) → w.1.1 ≤ wf.1.1 ∧ w.1.2 ≤ wf.1.2 := by
  intro n
  induction n with
  | zero => intro d mi pc L st w wf r h; simp [zgo] at h
  | succ n ih =>
    intro d mi pc L st w wf r h
    rw [zgo] at h
    cases hd : decode (zCode mi) pc with
    | error x => rw [hd] at h; simp at h
    | ok q =>
      obtain ⟨ins, len⟩ := q
      rw [hd] at h
      dsimp only at h
      cases hz : zst S mi ins len pc L st w with
      | none => rw [hz] at h; simp at h
      | some q =>
        rw [hz] at h
        obtain ⟨pc', L', st', w'⟩ | ⟨mj, as, rest⟩ | v := q
        · have h1 := ih h
          have h2 : w.1.1 ≤ w'.1.1 ∧ w.1.2 ≤ w'.1.2 := by
            unfold zst at hz
            split at hz
            · obtain ⟨q, -, hq⟩ := Option.map_eq_some_iff.mp hz; cases hq; exact ⟨Nat.le_refl _, Nat.le_refl _⟩
            · obtain ⟨q, -, hq⟩ := Option.map_eq_some_iff.mp hz; cases hq; exact ⟨Nat.le_refl _, Nat.le_refl _⟩
            · obtain ⟨q, -, hq⟩ := Option.map_eq_some_iff.mp hz; cases hq; exact ⟨Nat.le_refl _, Nat.le_refl _⟩
            · obtain ⟨q, h9, hq⟩ := Option.map_eq_some_iff.mp hz; cases hq; exact zhp_grow h9
            · obtain ⟨q, -, hq⟩ := Option.map_eq_some_iff.mp hz; cases hq
            · obtain ⟨q, -, hq⟩ := Option.map_eq_some_iff.mp hz; cases hq
            · cases hz
          exact ⟨Nat.le_trans h2.1 h1.1, Nat.le_trans h2.2 h1.2⟩
        · dsimp only at h
          cases d with
          | zero => simp at h
          | succ d =>
            dsimp only at h
            cases hc : zgo S n d mj 0 (lv_args 0 as) [] w with
            | none => rw [hc] at h; simp at h
            | some q =>
              obtain ⟨v, w'⟩ := q
              rw [hc] at h
              have h1 := ih hc
              have h2 := ih h
              exact ⟨Nat.le_trans h1.1 h2.1, Nat.le_trans h1.2 h2.2⟩
        · cases h; exact ⟨Nat.le_refl _, Nat.le_refl _⟩
def zRm (d : Nat) (w wf : zW) : Room := { frames := d, cells := wf.1.1 - w.1.1, slots := wf.1.2 - w.1.2, locals := d * zKK }
/-- a method's words: its code, and all of ours -/
def zws (mj : Nat) : List Cond := Cond.code (zY mj) (zCode mj) (zML mj) (zRT mj) :: zTbl
/-- the simulation of runs of at most n steps -/
def zSim (l : Launch) (D : va_G) (dA : Nat → ClassId) (b0 : Nat) (S : zS) (n : Nat) : Prop :=
  ∀ {d mi pc : Nat} {L : List (Nat × Value)} {st : List Value} {w wf : zW} {r : Option Value}, zgo S n d mi pc L st w = some (r, wf) →
  ∀ {p : Program} {e : Env} {R : Room} {s : State} {m : MethodId} {args : Array Value} {below : List Frame} {meth : Method} {c : Code} {H : Heap} {locs : List Loc} {n0 k0 : Nat} {Q : State → Prop} {ls : Array Slot},
  zEn D dA b0 S p s m args meth c mi → zSt D dA b0 w H → va_S (fun q => b0 ≤ q) s.heap H locs → lv_has ls (zML mi) L → n0 ≤ w.1.1 → k0 ≤ w.1.2 → d ≤ R.frames → d * zKK ≤ R.locals → wf.1.1 - n0 ≤ R.cells → wf.1.2 - k0 ≤ R.slots →
  (∀ (pc' : Nat) (ls' : Array Slot) (ins : Jvm.ClassFile.Instr) (len : Nat) (st' : List Value) (H' : Heap) (locs' : List Loc), decode (zCode mi) pc' = .ok (ins, len) → zrt mi ins len st' = some r → zSt D dA b0 wf H' → va_S (fun q => b0 ≤ q) s.heap H' locs' →
    W p l e R s m args below meth c H' locs' (wf.1.1 - n0) (wf.1.2 - k0) Q (F0 m pc' ls' st')) →
  W p l e R s m args below meth c H locs (w.1.1 - n0) (w.1.2 - k0) Q (F0 m pc ls st)
/-- a contract out of a walk, by the method's own name (a class of which other methods are run by entries is served too) -/
theorem zMetW {l : Launch} {y : MethodName} {ws ws' : List Cond} {rm : Room} {Pc : Array Value → State → Prop} {Qc : Array Value → State → Outcome → State → Prop} {mc ms : Nat} {free : Addr → Prop} {cc : ByteArray} {maxL : Nat} {ret : Option FieldType}
    (hy : plainFor y = true) (hw : ws = Cond.code y cc maxL ret :: ws')
    (body : ∀ p e s m args below meth c s₁, BodyLoose p l y (headSpec ws rm) cc maxL ret e s m args below meth c s₁ → c.maxLocals = maxL → Pc args s →
      W p l e (headSpec ws rm).room s m args below meth c s.heap [] 0 0 (MQ below Qc args s mc ms free) (entryFrame m args maxL)) : Met l y ws rm Pc Qc mc ms free := by
  refine MetFree.of_bodySF (code := cc) (maxLocals := maxL) (ret := ret) hy ?_ ?_
  · intro args s m h hn
    obtain ⟨meth, c, h1, h2, h3, h4, h5, h6, -, -⟩ := Cond.code_spec hn (atoms_spec (ws := ws) h _ (by rw [hw]; exact List.mem_cons_self))
    exact ⟨meth, c, h1, h2, h3, h4, h5, h6⟩
  · intro p e s m args below meth c s₁ B hml hP _
    have hh0 : s₁.heap = s.heap := by rw [B.state]; rfl
    obtain ⟨t, a1, o, b1, b2, b3⟩ := body p e s m args below meth c s₁ B hml hP s₁ hh0 (Stand.of_body B)
    exact ⟨t, o, a1, b1, b2, ⟨b3.1, b3.2⟩⟩
theorem zMet {l : Launch} {D : va_G} {dA : Nat → ClassId} {b0 : Nat} {S : zS} {n : Nat} (hsim : zSim l D dA b0 S n) {d mj : Nat} {as : List Value} {w wf : zW} {v : Option Value} (h : zgo S n d mj 0 (lv_args 0 as) [] w = some (v, wf)) (hm : zMk mj) (hfit : (lg_sl as).length ≤ zML mj) :
    Met l (zY mj) (zws mj) (zRm d w wf) (zPc D dA b0 S w as) (zQ D dA b0 v wf) (wf.1.1 - w.1.1) (wf.1.2 - w.1.2) (fun q => b0 ≤ q) := by
  obtain ⟨hcode, hp, hy1, hy2, hini, hON, hKK⟩ := hm
  refine zMetW (cc := zCode mj) (maxL := zML mj) (ret := zRT mj) hp rfl ?_
  intro p e s m args below meth c s₁ B hml hv
  obtain ⟨rfl, hw, hct⟩ := hv
  have hts := atoms_spec (ws := zws mj) B.pre
  have hown : s.vm.findClass (zY mj).cls = some m.cls := findClass_of_methodNamed B.named
  have hlocks := B.notSynchronized
  have hx := B.exec
  have hb := B.bytes
  have hr := B.returns
  have E : zEn D dA b0 S p s m as.toArray meth c mj := ⟨hx, hb, hml, hr, hlocks, by rw [hON]; exact hown, fun h => (name_of_methodNamed B.named B.method).1.trans h, fun w hw => hts w (List.mem_cons_of_mem _ hw), hct⟩
  rw [lg_entry_eq]
  have hl := lv_entry as hfit
  have key := hsim h (R := zRm d w wf) (below := below) (e := e) (Q := MQ below (zQ D dA b0 v wf) as.toArray s (wf.1.1 - w.1.1) (wf.1.2 - w.1.2) (fun q => b0 ≤ q)) E hw (va_S.rf (A := fun q => b0 ≤ q)) hl (Nat.le_refl _) (Nat.le_refl _) (Nat.le_refl _) (Nat.le_refl _) (Nat.le_refl _) (Nat.le_refl _) ?_
  · rw [Nat.sub_self, Nat.sub_self] at key
    exact key
  · intro pc' ls' ins len st' H' locs' hd hz hst hS
    have hq : ∀ (o : Outcome), o = .returned v → ∀ t : State, t.heap = H' → s.WarmedH t.vm → zQ D dA b0 v wf as.toArray s o t := fun o ho t ht _ => ⟨ho, by rw [ht]; exact hst, hS.F ht⟩
    unfold zrt at hz
    split at hz
    · split at hz
      · rename_i ty hty
        split at hz
        · rename_i hn; cases hz
          exact W.zret hx hb (hr.trans hty) hn (hq _ rfl) hS.2.2 hd
        · cases hz
      · cases hz
    · split at hz
      · rename_i hty; cases hz
        exact W.lret hx hb (hr.trans hty) (hq _ rfl) hS.2.2 hd
      · cases hz
    · split at hz
      · rename_i hty; cases hz
        exact W.aret hx hb (hr.trans hty) (Or.inl ⟨_, rfl⟩) (Or.inr ⟨_, rfl⟩) (hq _ rfl) hS.2.2 hd
      · rename_i hty; cases hz
        exact W.aret hx hb (hr.trans hty) (Or.inr ⟨_, rfl⟩) (Or.inr ⟨_, rfl⟩) (hq _ rfl) hS.2.2 hd
      · cases hz
    · split at hz
      · rename_i hty; cases hz
        exact W.aret hx hb (hr.trans hty) (Or.inl ⟨_, rfl⟩) (Or.inl rfl) (hq _ rfl) hS.2.2 hd
      · rename_i hty; cases hz
        exact W.aret hx hb (hr.trans hty) (Or.inr ⟨_, rfl⟩) (Or.inl rfl) (hq _ rfl) hS.2.2 hd
      · cases hz
    · split at hz
      · rename_i hty; cases hz
        exact W.vret hx hb (hr.trans hty) (hq _ rfl) hS.2.2 hd
      · cases hz
    · cases hz
theorem zws_warm {s U : State} {args : Array Value} (hts : ∀ w ∈ zTbl, w.before args s = true) {mj : Nat} (hm : zMk mj) (hW : s.WarmedH U.vm) : ∀ w ∈ zws mj, ∀ a', w.before a' U = true := by
  intro w hw a'
  have hw2 : w ∈ zTbl := by
    rcases List.mem_cons.mp hw with rfl | h
    · exact hm.1
    · exact h
  exact word_at hW (zTbl_good w hw2) (hts w hw2)
theorem z_take {st rest : List Value} {n b : Nat} (h : st.drop n = .ref b :: rest) : st = ((st.take n).reverse).reverse ++ .ref b :: rest ∧ ((st.take n).reverse).length = n := by
  refine ⟨by rw [List.reverse_reverse, ← h]; exact (List.take_append_drop n st).symm, ?_⟩
  rw [List.length_reverse, List.length_take]
  have h1 : (st.drop n).length = rest.length + 1 := by rw [h]; rfl
  rw [List.length_drop] at h1
  omega
theorem z_take2 {st : List Value} {n : Nat} (h : n ≤ st.length) : st = ((st.take n).reverse).reverse ++ st.drop n ∧ ((st.take n).reverse).length = n := by
  refine ⟨by rw [List.reverse_reverse]; exact (List.take_append_drop n st).symm, ?_⟩
  rw [List.length_reverse, List.length_take]
  exact Nat.min_eq_left h
theorem zgo_obj {S : zS} {n d : Nat} {b : Nat} {w w' : zW} {v : Option Value} (h : zgo S n d 0 0 (lv_args 0 [.ref b]) [] w = some (v, w')) : v = none ∧ w' = w := by
  cases n with
  | zero => simp [zgo] at h
  | succ n =>
    have hd : decode (zCode 0) 0 = .ok (.return_, 1) := by decide +kernel
    rw [zgo, hd] at h
    have hz : zst S 0 .return_ 1 0 (lv_args 0 [.ref b]) [] w = some (.inr (.inr none)) := rfl
    dsimp only at h
    rw [hz] at h
    cases h
    exact ⟨rfl, rfl⟩
set_option maxHeartbeats 4000000 in
theorem z_sim (l : Launch) (D : va_G) (dA : Nat → ClassId) (b0 : Nat) (S : zS) : ∀ n, zSim l D dA b0 S n := by
  intro n
  induction n with
  | zero => intro d mi pc L st w wf r h; simp [zgo] at h
  | succ n ih =>
    intro d mi pc L st w wf r h p e R s m args below meth c H locs n0 k0 Q ls E hw hS0 hl hn hk hf hlo hce hsl hret
    have hx := E.1
    have hb := E.2.1
    rw [zgo] at h
    cases hd : decode (zCode mi) pc with
    | error x => rw [hd] at h; simp at h
    | ok q =>
      obtain ⟨ins, len⟩ := q
      rw [hd] at h
      dsimp only at h
      cases hz : zst S mi ins len pc L st w with
      | none => rw [hz] at h; simp at h
      | some q =>
        rw [hz] at h
        unfold zst at hz
        split at hz
        -- the stack
        · obtain ⟨q1, h9, hq⟩ := Option.map_eq_some_iff.mp hz; subst hq
          exact zs_alu hx hb hd h9 (ih h E hw hS0 hl hn hk hf hlo hce hsl hret)
        -- locals
        · obtain ⟨⟨L', st'⟩, h9, hq⟩ := Option.map_eq_some_iff.mp hz; subst hq
          exact zs_loc hx hb hd hl h9 (fun ls' hl' => ih h E hw hS0 hl' hn hk hf hlo hce hsl hret)
        -- branches
        · obtain ⟨⟨pc', st'⟩, h9, hq⟩ := Option.map_eq_some_iff.mp hz; subst hq
          exact zs_br hx hb hd h9 (ih h E hw hS0 hl hn hk hf hlo hce hsl hret)
        -- the heap
        · obtain ⟨⟨st', w'⟩, h9, hq⟩ := Option.map_eq_some_iff.mp hz; subst hq
          dsimp only at h
          have hg := zhp_grow h9
          have hg2 := zgo_grow n h
          exact zs_hp E hw hS0 hd h9 hn hk ⟨by omega, by omega⟩ (fun H1 locs1 h1 h2 => ih h E h1 h2 hl (by omega) (by omega) hf hlo hce hsl hret)
        -- calls
        · obtain ⟨⟨mj, as, rest⟩, h9, hq⟩ := Option.map_eq_some_iff.mp hz; subst hq
          dsimp only at h
          cases d with
          | zero => simp at h
          | succ d =>
            dsimp only at h
            cases hc : zgo S n d mj 0 (lv_args 0 as) [] w with
            | none => rw [hc] at h; simp at h
            | some q =>
              obtain ⟨v, w'⟩ := q
              rw [hc] at h
              have g1 := zgo_grow n hc
              have g2 := zgo_grow n h
              have hE := E
              obtain ⟨-, -, hml, -, -, hown, -, hts, hct⟩ := hE
              have hsz : ls.size = zML mi := hl.1
              have hmove : ∀ U : State, U.heap = H → s.WarmedH U.vm → zCt D dA b0 S U := fun U hU hW => hct.moved hW (by rw [hU]; exact hS0.2.1 S.1 (Nat.lt_of_lt_of_le hct.2.2.2.1 hct.2.2.2.2) (Nat.not_le.mpr hct.2.2.2.1)) (by rw [hU, hw.1]; exact hw.2.1)
              have hcs : w.1.1 - n0 + (w'.1.1 - w.1.1) ≤ R.cells ∧ w.1.2 - k0 + (w'.1.2 - w.1.2) ≤ R.slots := ⟨by omega, by omega⟩
              have e5 : w.1.1 - n0 + (w'.1.1 - w.1.1) = w'.1.1 - n0 := by omega
              have e6 : w.1.2 - k0 + (w'.1.2 - w.1.2) = w'.1.2 - k0 := by omega
              have next : ∀ (H1 : Heap) (locs1 : List Loc), zSt D dA b0 w' H1 → va_S (fun q => b0 ≤ q) s.heap H1 locs1 → W p l e R s m args below meth c H1 locs1 (w.1.1 - n0 + (w'.1.1 - w.1.1)) (w.1.2 - k0 + (w'.1.2 - w.1.2)) Q (F0 m (pc + 3) ls (v.toList ++ rest)) := by
                intro H1 locs1 h1 h2
                rw [e5, e6]
                exact ih h E h1 h2 hl (by omega) (by omega) hf hlo hce hsl hret
              have room : zMk mj → (zRm d w w').frames + 1 ≤ R.frames ∧ 8 + (zML mj + 11) + (zRm d w w').locals ≤ R.locals := by
                intro hm
                refine ⟨hf, ?_⟩
                have h1 := hm.2.2.2.2.2.2
                have h2 : (d + 1) * zKK = d * zKK + zKK := Nat.succ_mul d zKK
                show 8 + (zML mj + 11) + d * zKK ≤ R.locals
                omega
              have pre : ∀ {asv : List Value}, asv = as → ∀ U : State, U.heap = H → s.WarmedH U.vm → zPc D dA b0 S w as asv.toArray U := by
                intro asv hav U hU hW
                subst hav
                exact ⟨rfl, by rw [hU]; exact hw, hmove U hU hW⟩
              unfold zcl at h9
              split at h9
              -- invokevirtual
              · split at h9
                · rename_i hmt
                  split at h9
                  · rename_i b rest' hdr
                    split at h9
                    · rename_i hsh
                      split at h9
                      · rename_i hcond
                        cases h9
                        obtain ⟨hm, hpn, hlk, hkind⟩ := (zMt_ok hmt).2 (by decide)
                        rcases hkind with ⟨-, hin, hse, r0, hrc, hvc, hrn⟩ | ⟨h0, -⟩ | ⟨h0, -⟩
                        · have hM := zMet ih hc hm hcond.2.2
                          have hrcv : ∃ cellB : Cell, H[b]? = some cellB ∧ cellB.vm.isStatics = false ∧ s.vm.findClass (zY mj).cls = some cellB.cls := by
                            have hcj := Option.some.inj (hrc.symm.trans hcond.1)
                            rcases (hw.2.2 b _ hsh).2 with ⟨-, r', h1, cell, q1, q2, q3, -⟩ | ⟨h0, -⟩
                            · exact ⟨cell, q1, by rw [q3]; rfl, by rw [q2, ← hrn]; dsimp only; rw [← hcj]; exact (hct.2.1.1 _ r0 hvc).2.1⟩
                            · exact absurd h0 (by dsimp only; rw [← hcj]; exact Nat.not_le.mpr (zCl_lt hvc))
                          obtain ⟨hstk, hlen⟩ := z_take hdr
                          rcases hlk with hlk | ⟨host, hlk⟩
                          · exact z_after (va_runV ⟨hx, hb, hml, hown, hts⟩ hM ⟨⟨rfl, rfl, (room hm).1, (room hm).2, fun w hw a' U hW => zws_warm hts hm hW w hw a', List.mem_cons_self, hts _ hm.1, hts _ hm.2.2.2.2.1, ⟨hm.2.2.1, hm.2.2.2.1⟩, fun sig hsg => by rw [hsg] at hpn; exact (Option.some.inj hpn).symm, hts _ hlk⟩, hts _ hin, hts _ hse⟩ ⟨zPc.blind, hrcv, pre rfl⟩ rfl hlen hsz hstk (lv_room hcond.2.1) hd hcs) hS0 next
                          · exact z_after (va_runVN ⟨hx, hb, hml, hown, hts⟩ hM ⟨⟨⟨rfl, rfl, (room hm).1, (room hm).2, fun w hw a' U hW => zws_warm hts hm hW w hw a', List.mem_cons_self⟩, hts _ hm.1, hts _ hm.2.2.2.2.1, ⟨hm.2.2.1, hm.2.2.2.1⟩, fun sig hsg => by rw [hsg] at hpn; exact (Option.some.inj hpn).symm, va_Nw.use rfl (hct.1 _ hlk)⟩, hts _ hin, hts _ hse⟩ ⟨zPc.blind, hrcv, pre rfl⟩ rfl hlen hsz hstk (lv_room hcond.2.1) hd hcs) hS0 next
                        · exact absurd h0 (by decide)
                        · exact absurd h0 (by decide)
                      · cases h9
                    · cases h9
                  · cases h9
                · cases h9
              -- invokespecial
              · split at h9
                · rename_i hmt
                  split at h9
                  · rename_i b rest' hdr
                    split at h9
                    · rename_i hcond
                      cases h9
                      obtain ⟨hm, hpn, hlk, hkind⟩ := (zMt_ok hmt).2 (by decide)
                      rcases hkind with ⟨h0, -⟩ | ⟨-, hin, hnm, hrt⟩ | ⟨h0, -⟩
                      · exact absurd h0 (by decide)
                      · have hM := zMet ih hc hm hcond.2
                        obtain ⟨hstk, hlen⟩ := z_take hdr
                        have hcw : Cond.code (zY mj) (zCode mj) (zML mj) none ∈ zws mj := by rw [← hrt]; exact List.mem_cons_self
                        rcases hlk with hlk | ⟨host, hlk⟩
                        · exact z_after (va_runI ⟨hx, hb, hml, hown, hts⟩ hM ⟨⟨rfl, rfl, (room hm).1, (room hm).2, fun w hw a' U hW => zws_warm hts hm hW w hw a', hcw, by rw [← hrt]; exact hts _ hm.1, hts _ hm.2.2.2.2.1, ⟨hm.2.2.1, hm.2.2.2.1⟩, fun sig hsg => by rw [hsg] at hpn; exact (Option.some.inj hpn).symm, hts _ hlk⟩, hnm, hts _ hin⟩ ⟨zPc.blind, pre rfl⟩ rfl hlen hsz hstk (lv_room hcond.1) hd hcs) hS0 next
                        · exact z_after (va_runIN ⟨hx, hb, hml, hown, hts⟩ hM ⟨⟨⟨rfl, rfl, (room hm).1, (room hm).2, fun w hw a' U hW => zws_warm hts hm hW w hw a', hcw⟩, by rw [← hrt]; exact hts _ hm.1, hts _ hm.2.2.2.2.1, ⟨hm.2.2.1, hm.2.2.2.1⟩, fun sig hsg => by rw [hsg] at hpn; exact (Option.some.inj hpn).symm, va_Nw.use rfl (hct.1 _ hlk)⟩, hnm, hts _ hin⟩ ⟨zPc.blind, pre rfl⟩ rfl hlen hsz hstk (lv_room hcond.1) hd hcs) hS0 next
                      · exact absurd h0 (by decide)
                    · cases h9
                  · cases h9
                · rename_i hmt
                  split at h9
                  · rename_i b rest'
                    split at h9
                    · rename_i hcond
                      cases h9
                      obtain ⟨ho1, ho2, ho3⟩ := (zMt_ok hmt).1 rfl
                      · obtain ⟨rfl, rfl⟩ := zgo_obj hc
                        have h1 : 1 ≤ R.frames := by omega
                        have h2 : zcs rest + 12 ≤ R.locals := by
                          have h3 : (d + 1) * zKK = d * zKK + zKK := Nat.succ_mul d zKK
                          have h4 : 20 ≤ zKK := by decide
                          have h5 := hcond
                          omega
                        have nx := next H locs hw hS0
                        rw [Nat.sub_self, Nat.sub_self, Nat.add_zero, Nat.add_zero] at nx
                        exact W.objInit hx hb hown (hts _ ho1) (hts _ ho2) (hts _ ho3) rfl (by rw [hml]; exact hsz) rfl hd h1 (by simpa [JFrame.monitorRoom, zcs] using h2) nx
                    · cases h9
                  · cases h9
                · cases h9
              -- invokestatic
              · split at h9
                · rename_i hmt
                  split at h9
                  · rename_i hcond
                    cases h9
                    obtain ⟨hm, hpn, hlk, hkind⟩ := (zMt_ok hmt).2 (by decide)
                    rcases hkind with ⟨h0, -⟩ | ⟨h0, -⟩ | ⟨-, hin⟩
                    · exact absurd h0 (by decide)
                    · exact absurd h0 (by decide)
                    · have hM := zMet ih hc hm hcond.2.2
                      obtain ⟨hstk, hlen⟩ := z_take2 hcond.1
                      rcases hlk with hlk | ⟨host, hlk⟩
                      · exact z_after (va_runS ⟨hx, hb, hml, hown, hts⟩ hM ⟨⟨rfl, rfl, (room hm).1, (room hm).2, fun w hw a' U hW => zws_warm hts hm hW w hw a', List.mem_cons_self, hts _ hm.1, hts _ hm.2.2.2.2.1, ⟨hm.2.2.1, hm.2.2.2.1⟩, fun sig hsg => by rw [hsg] at hpn; exact (Option.some.inj hpn).symm, hts _ hlk⟩, hts _ hin⟩ ⟨zPc.blind, pre rfl⟩ rfl hlen hsz hstk (lv_room hcond.2.1) hd hcs) hS0 next
                      · exact z_after (va_runSN ⟨hx, hb, hml, hown, hts⟩ hM ⟨⟨⟨rfl, rfl, (room hm).1, (room hm).2, fun w hw a' U hW => zws_warm hts hm hW w hw a', List.mem_cons_self⟩, hts _ hm.1, hts _ hm.2.2.2.2.1, ⟨hm.2.2.1, hm.2.2.2.1⟩, fun sig hsg => by rw [hsg] at hpn; exact (Option.some.inj hpn).symm, va_Nw.use rfl (hct.1 _ hlk)⟩, hts _ hin, trivial⟩ ⟨zPc.blind, pre rfl⟩ rfl hlen hsz hstk (lv_room hcond.2.1) hd hcs) hS0 next
                  · cases h9
                · cases h9
              · cases h9
        -- returns
        · obtain ⟨q1, h9, hq⟩ := Option.map_eq_some_iff.mp hz; subst hq
          cases h
          exact hret pc ls ins len st H locs hd h9 hw hS0
        · cases hz
end
section
/-! THE CLAIM OUT OF ONE WALK OF THE LAW'S BODY. Your part is whole_start (and what it stands on); all else here is the same for every law, but numbers. -/
def R_law : String := "StepWalkLaw"
def lw_P (b : Addr) (xs : List Int32) (args : Array Value) (s : State) : Prop := args = #[.ref b] ∧ s.IntsAt b xs ∧ xs.length ≤ 2560 ∧ (Jvm.Cond.and given_1 narrow_1).before args s = true
def lw_Q (_ : Array Value) (s : State) (o : Outcome) (t : State) : Prop := o = .returned (some (.int 1)) ∧ Framed s o t [] 600000 7302249
def lw_Z (below : List Frame) (a : Array Value) (s : State) : State → Prop := fun t => ∃ o, t.status = .running ∧ Ended t below o ∧ lw_Q a s o t
/-- the law's own end, with 1 on the stack, nothing written that was there before, its room as the claim has it -/
theorem lw_ret {p : Program} {l : Launch} {e : Env} {s : State} {m : MethodId} {below : List Frame} {meth : Method} {c : Code} {b : Nat} (hx : p.tables.exec = Jvm.exec) (hb : c.code = code) (hr : meth.sig.returnType = ret) (hlocks : meth.locks = false) {pc : Nat} {H : Heap} {ls : Array Slot} (hdg : decode code pc = .ok (.ireturn, 1)) : W p l e room_1 s m #[Value.ref b] below meth c H [] 600000 7302249 (lw_Z below #[Value.ref b] s) (F0 m pc ls [.int 1]) := by
  intro T hT X
  obtain ⟨fs, hret, hrun, hended, hW, hframe⟩ := X.leave (v := some (.int 1)) (hlocks := hlocks) (fun h => by rw [hr] at h; cases h)
  have hmeth' : T.vm.method? m = some meth := X.method'
  refine ⟨T.setFrames fs, ?_, .returned (some (.int 1)), hrun, hended, rfl, ⟨_, rfl⟩, hW, hframe⟩
  jvm_step X.here [X.here.top, hx, hb, hdg, hmeth', hr, ret, narrow_b1]
  (try refine ⟨rfl, ?_⟩); (try refine ⟨rfl, ?_⟩)
  first | (intro acts; rw [hret _ acts rfl rfl rfl]) | rw [hret _ _ rfl rfl rfl]
  exact Steps.refl _
/-- what holds at the law's entry: the machine, the code, the tables' words (any of lw_tbl by 'hts w (by decide +kernel)'), the script of L ints xs at the cell b, what the Statement gives of the start (any of its parts by flat_of_before) -/
def lw_At (p : Program) (s : State) (m : MethodId) (meth : Method) (c : Code) (b L : Nat) (xs : Nat → Int32) : Prop :=
  p.tables.exec = Jvm.exec ∧ c.code = code ∧ meth.sig.returnType = ret ∧ c.maxLocals = 4 ∧ s.vm.findClass R_law = some m.cls ∧ (∀ w ∈ lw_tbl, w.before #[Value.ref b] s = true) ∧ va_X b L xs s s.heap ∧ b < s.heap.size ∧ meth.locks = false ∧ (Jvm.Cond.and given_1 narrow_1).before #[Value.ref b] s = true
set_option maxRecDepth 100000 in
theorem zIn_ok : vwCl.all (fun r => decide (Cond.instantiable r.1 r.2.2 ∈ tables_1)) = true := by decide +kernel
/-- the classes and arrays at the law's entry -/
theorem z_classes {s : State} {args : Array Value} (hts : ∀ w ∈ lw_tbl, w.before args s = true) : ∃ (D : va_G) (dA : Nat → ClassId), va_K D vwCl (zTys dA) s := by
  have htz : ∀ w ∈ zTbl, w.before args s = true := fun w hw => hts w (List.mem_filter.mp hw).1
  have h1 : ∀ ci : Nat, ∃ q : ClassId × (Nat → Nat), ∀ r : vw_C, vwCl[ci]? = some r → u_Kn s r.1 r.2.1 r.2.2 q.1 q.2 := by
    intro ci
    cases hc : vwCl[ci]? with
    | none => exact ⟨(0, fun _ => 0), fun r h => by cases h⟩
    | some r =>
      have h2 := List.all_eq_true.mp zIn_ok r (List.mem_of_getElem? hc)
      have h3 := hts _ (List.mem_append_right _ (of_decide_eq_true h2))
      obtain ⟨cC, iS, hk⟩ := u_known htz (zCl_ok hc).1 h3
      exact ⟨(cC, iS), fun r' h => by cases h; exact hk⟩
  obtain ⟨f, hf⟩ := Classical.axiomOfChoice h1
  have num : ∀ ty : FieldType, (∀ C, ty ≠ .object C) → Cond.arrayClass ty ∈ zTbl → ∃ cA : ClassId, ArrOfT s cA ty ∧ va_RA s cA ty := by
    intro ty hne hw
    obtain ⟨cA, kA, comp, g1, g2, g3⟩ := Cond.arrayClass_spec (htz _ hw)
    refine ⟨cA, fun n z => ⟨fun k h => (by cases h), kA, g2, comp, g3⟩, ?_⟩
    cases ty with
    | object C => exact absurd rfl (hne C)
    | _ => exact g1
  have obj : ∀ C : String, Cond.arrayOver (.object C) ∈ zNst → ∃ cA : ClassId, ArrOfT s cA (.object C) ∧ va_RA s cA (.object C) := by
    intro C hw
    obtain ⟨comp, cA, kA, g1, g2, g3, g4, g5⟩ := Cond.arrayOver_spec (hts _ (List.mem_append_right _ (List.mem_filter.mp hw).1))
    exact ⟨cA, fun n z => ⟨fun k h => (by cases h), kA, g3, comp, g4⟩, kA, comp, g3, g4, g1, g5⟩
  have h2 : ∀ k : Nat, ∃ cA : ClassId, k < zNT → ArrOfT s cA (zAK k) ∧ va_RA s cA (zAK k) := by
    intro k
    match k with
    | 0 => obtain ⟨cA, h⟩ := num .int (fun C h => by cases h) (zNA_ok (t := .int) (k := 0) rfl).2.2.1; exact ⟨cA, fun _ => h⟩
    | 1 => obtain ⟨cA, h⟩ := num .long (fun C h => by cases h) (zNA_ok (t := .long) (k := 1) rfl).2.2.1; exact ⟨cA, fun _ => h⟩
    | 2 => obtain ⟨cA, h⟩ := num .boolean (fun C h => by cases h) (zNA_ok (t := .boolean) (k := 2) rfl).2.2.1; exact ⟨cA, fun _ => h⟩
    | 3 => obtain ⟨cA, h⟩ := obj "StepWalk$Part" (z_n (i := 26) (by decide +kernel) rfl); exact ⟨cA, fun _ => h⟩
    | 4 => obtain ⟨cA, h⟩ := obj "StepWalk$Spot" (z_n (i := 99) (by decide +kernel) rfl); exact ⟨cA, fun _ => h⟩
    | k + 5 => exact ⟨0, fun h => absurd h (by unfold zNT; omega)⟩
  obtain ⟨dA, hdA⟩ := Classical.axiomOfChoice h2
  refine ⟨(fun c => (f c).1, fun c => (f c).2), dA, fun c q hq => hf c q hq, fun k q hk => ?_⟩
  have hl : k < zNT := by
    have := (List.getElem?_eq_some_iff.mp hk).1
    simpa [zTys] using this
  rw [zTys_at dA hl] at hk
  cases hk
  exact hdA k hl
/-- what is owed, of the pure machine -/
def zClaim : Prop := ∀ (b L b0 : Nat) (xs : Nat → Int32), L ≤ 2560 → b < b0 → zOk (b, L, xs) 1000 zLaw 0 [(0, .ref b)] [] ((b0, 0), (fun _ => none), fun _ _ => .null) (fun v w' => v = some (.int 1) ∧ w'.1.1 ≤ b0 + 600000 ∧ w'.1.2 ≤ 7302249)
set_option maxHeartbeats 4000000 in
theorem z_whole (hz : zClaim) {p : Program} {e : Env} {s : State} {m : MethodId} {below : List Frame} {meth : Method} {c : Code} (l : Launch) {b L : Nat} {xs : Nat → Int32} (hL : L ≤ 2560) (C0 : lw_At p s m meth c b L xs) : W p l e room_1 s m #[Value.ref b] below meth c s.heap [] 0 0 (lw_Z below #[Value.ref b] s) (entryFrame m ([Value.ref b] : List Value).toArray 4) := by
  obtain ⟨hx, hb, hr, hml, hown, hts, hX, hbl, hlocks, hgv⟩ := C0
  have htz : ∀ w ∈ zTbl, w.before #[Value.ref b] s = true := fun w hw => hts w (List.mem_filter.mp hw).1
  have hns : ∀ w ∈ zNst, va_Nw w s := by
    intro w hw
    obtain ⟨hw1, hw2⟩ := List.mem_filter.mp hw
    have h := hts w (List.mem_append_right _ hw1)
    rcases zNs_cases hw2 with ⟨a, i, x, t, rfl⟩ | ⟨C, rfl⟩
    · exact va_Nw.of rfl h
    · exact va_AO.of h
  obtain ⟨D, dA, hK⟩ := z_classes hts
  obtain ⟨n, v, wf, hg, hv, hc, hs⟩ := hz b L s.heap.size xs hL hbl
  subst hv
  rw [lg_entry_eq]
  have hl := lv_entry [Value.ref b] (n := 4) (Nat.le_of_ble_eq_true rfl)
  have E : zEn D dA s.heap.size (b, L, xs) p s m #[Value.ref b] meth c zLaw := ⟨hx, hb, hml, hr, hlocks, hown, fun h => absurd h (by decide), htz, hns, hK, hX, hbl, Nat.le_refl _⟩
  have hw : zSt D dA s.heap.size ((s.heap.size, 0), (fun _ => none), fun _ _ => .null) s.heap := ⟨rfl, Nat.le_refl _, fun a q h => by cases h⟩
  have key := z_sim l D dA s.heap.size (b, L, xs) n hg (R := room_1) (below := below) (e := e) (n0 := s.heap.size) (k0 := 0) (Q := lw_Z below #[Value.ref b] s) E hw (va_S.rf (A := fun q => s.heap.size ≤ q)) hl (Nat.le_refl _) (Nat.le_refl _) (by decide) (by decide) (by show wf.1.1 - s.heap.size ≤ 600000; omega) (by show wf.1.2 - 0 ≤ 7302249; omega) ?_
  · rw [Nat.sub_self, Nat.sub_self] at key
    exact key
  · intro pc' ls' ins len st' H' locs' hd hz hst hS
    unfold zrt at hz
    split at hz
    · split at hz
      · split at hz
        · cases hz
          refine va_forget (fun q hq => hS.2.2 q hq) ?_
          refine W.widen (k := 600000) (n := 7302249) (by omega) (by omega) ?_
          exact lw_ret hx hb hr hlocks hd
        · cases hz
      · cases hz
    · split at hz
      · cases hz
      · cases hz
    · split at hz
      · cases hz
      · cases hz
      · cases hz
    · split at hz
      · cases hz
      · cases hz
      · cases hz
    · split at hz
      · cases hz
      · cases hz
    · cases hz
end
