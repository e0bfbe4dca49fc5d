section
-- ===== PART A: goes FIRST, ahead of the names: the tables' words, and 'selects' of the private methods out of them =====
/-- a private method of a class that the tables say can be made, by its rows of tables_1 -/
def lw_okq (q : MethodName × Nat) : Prop := (q.1.cls ≠ "java/lang/invoke/MethodHandle" ∧ q.1.cls ≠ "java/lang/invoke/VarHandle") ∧ Cond.instantiable q.1.cls q.2 ∈ tables_1 ∧ Cond.privateMethod q.1 ∈ tables_1 ∧ Cond.instanceMethod q.1 ∈ tables_1
theorem lw_p0 : lw_okq (⟨"StepWalk$Program", "add", "(LStepWalk$Part;)I"⟩, 2) := ⟨⟨by decide +kernel, by decide +kernel⟩, List.mem_of_getElem? (i := 20) (by decide +kernel), List.mem_of_getElem? (i := 208) (by decide +kernel), List.mem_of_getElem? (i := 209) (by decide +kernel)⟩
theorem lw_p1 : lw_okq (⟨"StepWalk$Program", "takeParts", "(LStepWalk$Part;III)Z"⟩, 2) := ⟨⟨by decide +kernel, by decide +kernel⟩, List.mem_of_getElem? (i := 20) (by decide +kernel), List.mem_of_getElem? (i := 220) (by decide +kernel), List.mem_of_getElem? (i := 221) (by decide +kernel)⟩
theorem lw_p2 : lw_okq (⟨"StepWalk$Walk", "layOut", "(LStepWalk$Part;)LStepWalk$Spot;"⟩, 10) := ⟨⟨by decide +kernel, by decide +kernel⟩, List.mem_of_getElem? (i := 35) (by decide +kernel), List.mem_of_getElem? (i := 283) (by decide +kernel), List.mem_of_getElem? (i := 284) (by decide +kernel)⟩
theorem lw_p3 : lw_okq (⟨"StepWalk$Walk", "lookAtLimits", "()V"⟩, 10) := ⟨⟨by decide +kernel, by decide +kernel⟩, List.mem_of_getElem? (i := 35) (by decide +kernel), List.mem_of_getElem? (i := 356) (by decide +kernel), List.mem_of_getElem? (i := 357) (by decide +kernel)⟩
theorem lw_p4 : lw_okq (⟨"StepWalk$Walk", "reckon", "(LStepWalk$Part;)J"⟩, 10) := ⟨⟨by decide +kernel, by decide +kernel⟩, List.mem_of_getElem? (i := 35) (by decide +kernel), List.mem_of_getElem? (i := 360) (by decide +kernel), List.mem_of_getElem? (i := 361) (by decide +kernel)⟩
theorem lw_p5 : lw_okq (⟨"StepWalk$Walk", "giveUp", "(LStepWalk$Spot;)V"⟩, 10) := ⟨⟨by decide +kernel, by decide +kernel⟩, List.mem_of_getElem? (i := 35) (by decide +kernel), List.mem_of_getElem? (i := 371) (by decide +kernel), List.mem_of_getElem? (i := 372) (by decide +kernel)⟩
theorem lw_p6 : lw_okq (⟨"StepWalk$Walk", "goOn", "(LStepWalk$Spot;)Z"⟩, 10) := ⟨⟨by decide +kernel, by decide +kernel⟩, List.mem_of_getElem? (i := 35) (by decide +kernel), List.mem_of_getElem? (i := 379) (by decide +kernel), List.mem_of_getElem? (i := 380) (by decide +kernel)⟩
theorem lw_p7 : lw_okq (⟨"StepWalk$Walk", "begin", "(LStepWalk$Spot;)Z"⟩, 10) := ⟨⟨by decide +kernel, by decide +kernel⟩, List.mem_of_getElem? (i := 35) (by decide +kernel), List.mem_of_getElem? (i := 383) (by decide +kernel), List.mem_of_getElem? (i := 384) (by decide +kernel)⟩
theorem lw_p8 : lw_okq (⟨"StepWalk$Walk", "takeEffect", "(LStepWalk$Spot;)V"⟩, 10) := ⟨⟨by decide +kernel, by decide +kernel⟩, List.mem_of_getElem? (i := 35) (by decide +kernel), List.mem_of_getElem? (i := 394) (by decide +kernel), List.mem_of_getElem? (i := 395) (by decide +kernel)⟩
theorem lw_p9 : lw_okq (⟨"StepWalk$Walk", "advance", "(LStepWalk$Spot;)Z"⟩, 10) := ⟨⟨by decide +kernel, by decide +kernel⟩, List.mem_of_getElem? (i := 35) (by decide +kernel), List.mem_of_getElem? (i := 399) (by decide +kernel), List.mem_of_getElem? (i := 400) (by decide +kernel)⟩
theorem lw_p10 : lw_okq (⟨"StepWalk$Walk", "moveRamp", "(LStepWalk$Spot;)Z"⟩, 10) := ⟨⟨by decide +kernel, by decide +kernel⟩, List.mem_of_getElem? (i := 35) (by decide +kernel), List.mem_of_getElem? (i := 403) (by decide +kernel), List.mem_of_getElem? (i := 404) (by decide +kernel)⟩
theorem lw_p11 : lw_okq (⟨"StepWalk$Walk", "goOnInOrder", "(LStepWalk$Spot;)Z"⟩, 10) := ⟨⟨by decide +kernel, by decide +kernel⟩, List.mem_of_getElem? (i := 35) (by decide +kernel), List.mem_of_getElem? (i := 410) (by decide +kernel), List.mem_of_getElem? (i := 411) (by decide +kernel)⟩
theorem lw_p12 : lw_okq (⟨"StepWalk$Walk", "goOnSideBySide", "(LStepWalk$Spot;)Z"⟩, 10) := ⟨⟨by decide +kernel, by decide +kernel⟩, List.mem_of_getElem? (i := 35) (by decide +kernel), List.mem_of_getElem? (i := 418) (by decide +kernel), List.mem_of_getElem? (i := 419) (by decide +kernel)⟩
theorem lw_p13 : lw_okq (⟨"StepWalk$Walk", "goOnRepeating", "(LStepWalk$Spot;)Z"⟩, 10) := ⟨⟨by decide +kernel, by decide +kernel⟩, List.mem_of_getElem? (i := 35) (by decide +kernel), List.mem_of_getElem? (i := 422) (by decide +kernel), List.mem_of_getElem? (i := 423) (by decide +kernel)⟩
theorem lw_p14 : lw_okq (⟨"StepWalk$Walk", "isLive", "()Z"⟩, 10) := ⟨⟨by decide +kernel, by decide +kernel⟩, List.mem_of_getElem? (i := 35) (by decide +kernel), List.mem_of_getElem? (i := 444) (by decide +kernel), List.mem_of_getElem? (i := 445) (by decide +kernel)⟩
theorem lw_p15 : lw_okq (⟨"StepWalkModel", "put", "(IIIIJII)I"⟩, 38) := ⟨⟨by decide +kernel, by decide +kernel⟩, List.mem_of_getElem? (i := 506) (by decide +kernel), List.mem_of_getElem? (i := 632) (by decide +kernel), List.mem_of_getElem? (i := 633) (by decide +kernel)⟩
def lw_privs_1 : List (MethodName × Nat) := [(⟨"StepWalk$Program", "add", "(LStepWalk$Part;)I"⟩, 2), (⟨"StepWalk$Program", "takeParts", "(LStepWalk$Part;III)Z"⟩, 2), (⟨"StepWalk$Walk", "layOut", "(LStepWalk$Part;)LStepWalk$Spot;"⟩, 10), (⟨"StepWalk$Walk", "lookAtLimits", "()V"⟩, 10), (⟨"StepWalk$Walk", "reckon", "(LStepWalk$Part;)J"⟩, 10), (⟨"StepWalk$Walk", "giveUp", "(LStepWalk$Spot;)V"⟩, 10), (⟨"StepWalk$Walk", "goOn", "(LStepWalk$Spot;)Z"⟩, 10), (⟨"StepWalk$Walk", "begin", "(LStepWalk$Spot;)Z"⟩, 10), (⟨"StepWalk$Walk", "takeEffect", "(LStepWalk$Spot;)V"⟩, 10), (⟨"StepWalk$Walk", "advance", "(LStepWalk$Spot;)Z"⟩, 10), (⟨"StepWalk$Walk", "moveRamp", "(LStepWalk$Spot;)Z"⟩, 10), (⟨"StepWalk$Walk", "goOnInOrder", "(LStepWalk$Spot;)Z"⟩, 10), (⟨"StepWalk$Walk", "goOnSideBySide", "(LStepWalk$Spot;)Z"⟩, 10), (⟨"StepWalk$Walk", "goOnRepeating", "(LStepWalk$Spot;)Z"⟩, 10), (⟨"StepWalk$Walk", "isLive", "()Z"⟩, 10), (⟨"StepWalkModel", "put", "(IIIIJII)I"⟩, 38)]
theorem lw_r1 : ∀ q ∈ lw_privs_1, lw_okq q := List.forall_mem_cons.mpr ⟨lw_p0, List.forall_mem_cons.mpr ⟨lw_p1, List.forall_mem_cons.mpr ⟨lw_p2, List.forall_mem_cons.mpr ⟨lw_p3, List.forall_mem_cons.mpr ⟨lw_p4, List.forall_mem_cons.mpr ⟨lw_p5, List.forall_mem_cons.mpr ⟨lw_p6, List.forall_mem_cons.mpr ⟨lw_p7, List.forall_mem_cons.mpr ⟨lw_p8, List.forall_mem_cons.mpr ⟨lw_p9, List.forall_mem_cons.mpr ⟨lw_p10, List.forall_mem_cons.mpr ⟨lw_p11, List.forall_mem_cons.mpr ⟨lw_p12, List.forall_mem_cons.mpr ⟨lw_p13, List.forall_mem_cons.mpr ⟨lw_p14, List.forall_mem_cons.mpr ⟨lw_p15, fun _ h => absurd h List.not_mem_nil⟩⟩⟩⟩⟩⟩⟩⟩⟩⟩⟩⟩⟩⟩⟩⟩
theorem lw_p16 : lw_okq (⟨"StepWalkModel", "areParts", "(IIII)Z"⟩, 38) := ⟨⟨by decide +kernel, by decide +kernel⟩, List.mem_of_getElem? (i := 506) (by decide +kernel), List.mem_of_getElem? (i := 640) (by decide +kernel), List.mem_of_getElem? (i := 641) (by decide +kernel)⟩
theorem lw_p17 : lw_okq (⟨"StepWalkModel", "isStatement", "(I)Z"⟩, 38) := ⟨⟨by decide +kernel, by decide +kernel⟩, List.mem_of_getElem? (i := 506) (by decide +kernel), List.mem_of_getElem? (i := 644) (by decide +kernel), List.mem_of_getElem? (i := 645) (by decide +kernel)⟩
theorem lw_p18 : lw_okq (⟨"StepWalkModel", "isNode", "(I)Z"⟩, 38) := ⟨⟨by decide +kernel, by decide +kernel⟩, List.mem_of_getElem? (i := 506) (by decide +kernel), List.mem_of_getElem? (i := 648) (by decide +kernel), List.mem_of_getElem? (i := 649) (by decide +kernel)⟩
theorem lw_p19 : lw_okq (⟨"StepWalkModel", "isValue", "(I)Z"⟩, 38) := ⟨⟨by decide +kernel, by decide +kernel⟩, List.mem_of_getElem? (i := 506) (by decide +kernel), List.mem_of_getElem? (i := 655) (by decide +kernel), List.mem_of_getElem? (i := 656) (by decide +kernel)⟩
theorem lw_p20 : lw_okq (⟨"StepWalkModel", "depth", "(I)I"⟩, 38) := ⟨⟨by decide +kernel, by decide +kernel⟩, List.mem_of_getElem? (i := 506) (by decide +kernel), List.mem_of_getElem? (i := 659) (by decide +kernel), List.mem_of_getElem? (i := 660) (by decide +kernel)⟩
theorem lw_p21 : lw_okq (⟨"StepWalkModel", "counted", "(I)I"⟩, 38) := ⟨⟨by decide +kernel, by decide +kernel⟩, List.mem_of_getElem? (i := 506) (by decide +kernel), List.mem_of_getElem? (i := 671) (by decide +kernel), List.mem_of_getElem? (i := 672) (by decide +kernel)⟩
theorem lw_p22 : lw_okq (⟨"StepWalkModel", "lay", "(I)I"⟩, 38) := ⟨⟨by decide +kernel, by decide +kernel⟩, List.mem_of_getElem? (i := 506) (by decide +kernel), List.mem_of_getElem? (i := 675) (by decide +kernel), List.mem_of_getElem? (i := 676) (by decide +kernel)⟩
theorem lw_p23 : lw_okq (⟨"StepWalkModel", "look", "(I)Z"⟩, 38) := ⟨⟨by decide +kernel, by decide +kernel⟩, List.mem_of_getElem? (i := 506) (by decide +kernel), List.mem_of_getElem? (i := 683) (by decide +kernel), List.mem_of_getElem? (i := 684) (by decide +kernel)⟩
theorem lw_p24 : lw_okq (⟨"StepWalkModel", "reckon", "(I)J"⟩, 38) := ⟨⟨by decide +kernel, by decide +kernel⟩, List.mem_of_getElem? (i := 506) (by decide +kernel), List.mem_of_getElem? (i := 687) (by decide +kernel), List.mem_of_getElem? (i := 688) (by decide +kernel)⟩
theorem lw_p25 : lw_okq (⟨"StepWalkModel", "isBad", "()Z"⟩, 38) := ⟨⟨by decide +kernel, by decide +kernel⟩, List.mem_of_getElem? (i := 506) (by decide +kernel), List.mem_of_getElem? (i := 691) (by decide +kernel), List.mem_of_getElem? (i := 692) (by decide +kernel)⟩
theorem lw_p26 : lw_okq (⟨"StepWalkModel", "note", "(II)V"⟩, 38) := ⟨⟨by decide +kernel, by decide +kernel⟩, List.mem_of_getElem? (i := 506) (by decide +kernel), List.mem_of_getElem? (i := 695) (by decide +kernel), List.mem_of_getElem? (i := 696) (by decide +kernel)⟩
theorem lw_p27 : lw_okq (⟨"StepWalkModel", "giveUp", "(I)V"⟩, 38) := ⟨⟨by decide +kernel, by decide +kernel⟩, List.mem_of_getElem? (i := 506) (by decide +kernel), List.mem_of_getElem? (i := 699) (by decide +kernel), List.mem_of_getElem? (i := 700) (by decide +kernel)⟩
theorem lw_p28 : lw_okq (⟨"StepWalkModel", "go", "(I)I"⟩, 38) := ⟨⟨by decide +kernel, by decide +kernel⟩, List.mem_of_getElem? (i := 506) (by decide +kernel), List.mem_of_getElem? (i := 703) (by decide +kernel), List.mem_of_getElem? (i := 704) (by decide +kernel)⟩
theorem lw_p29 : lw_okq (⟨"StepWalkModel", "begin", "(I)Z"⟩, 38) := ⟨⟨by decide +kernel, by decide +kernel⟩, List.mem_of_getElem? (i := 506) (by decide +kernel), List.mem_of_getElem? (i := 707) (by decide +kernel), List.mem_of_getElem? (i := 708) (by decide +kernel)⟩
theorem lw_p30 : lw_okq (⟨"StepWalkModel", "goRow", "(I)I"⟩, 38) := ⟨⟨by decide +kernel, by decide +kernel⟩, List.mem_of_getElem? (i := 506) (by decide +kernel), List.mem_of_getElem? (i := 711) (by decide +kernel), List.mem_of_getElem? (i := 712) (by decide +kernel)⟩
theorem lw_p31 : lw_okq (⟨"StepWalkModel", "goUntil", "(I)I"⟩, 38) := ⟨⟨by decide +kernel, by decide +kernel⟩, List.mem_of_getElem? (i := 506) (by decide +kernel), List.mem_of_getElem? (i := 715) (by decide +kernel), List.mem_of_getElem? (i := 716) (by decide +kernel)⟩
def lw_privs_2 : List (MethodName × Nat) := [(⟨"StepWalkModel", "areParts", "(IIII)Z"⟩, 38), (⟨"StepWalkModel", "isStatement", "(I)Z"⟩, 38), (⟨"StepWalkModel", "isNode", "(I)Z"⟩, 38), (⟨"StepWalkModel", "isValue", "(I)Z"⟩, 38), (⟨"StepWalkModel", "depth", "(I)I"⟩, 38), (⟨"StepWalkModel", "counted", "(I)I"⟩, 38), (⟨"StepWalkModel", "lay", "(I)I"⟩, 38), (⟨"StepWalkModel", "look", "(I)Z"⟩, 38), (⟨"StepWalkModel", "reckon", "(I)J"⟩, 38), (⟨"StepWalkModel", "isBad", "()Z"⟩, 38), (⟨"StepWalkModel", "note", "(II)V"⟩, 38), (⟨"StepWalkModel", "giveUp", "(I)V"⟩, 38), (⟨"StepWalkModel", "go", "(I)I"⟩, 38), (⟨"StepWalkModel", "begin", "(I)Z"⟩, 38), (⟨"StepWalkModel", "goRow", "(I)I"⟩, 38), (⟨"StepWalkModel", "goUntil", "(I)I"⟩, 38)]
theorem lw_r2 : ∀ q ∈ lw_privs_2, lw_okq q := List.forall_mem_cons.mpr ⟨lw_p16, List.forall_mem_cons.mpr ⟨lw_p17, List.forall_mem_cons.mpr ⟨lw_p18, List.forall_mem_cons.mpr ⟨lw_p19, List.forall_mem_cons.mpr ⟨lw_p20, List.forall_mem_cons.mpr ⟨lw_p21, List.forall_mem_cons.mpr ⟨lw_p22, List.forall_mem_cons.mpr ⟨lw_p23, List.forall_mem_cons.mpr ⟨lw_p24, List.forall_mem_cons.mpr ⟨lw_p25, List.forall_mem_cons.mpr ⟨lw_p26, List.forall_mem_cons.mpr ⟨lw_p27, List.forall_mem_cons.mpr ⟨lw_p28, List.forall_mem_cons.mpr ⟨lw_p29, List.forall_mem_cons.mpr ⟨lw_p30, List.forall_mem_cons.mpr ⟨lw_p31, fun _ h => absurd h List.not_mem_nil⟩⟩⟩⟩⟩⟩⟩⟩⟩⟩⟩⟩⟩⟩⟩⟩
theorem lw_p32 : lw_okq (⟨"StepWalkModel", "goBoth", "(I)I"⟩, 38) := ⟨⟨by decide +kernel, by decide +kernel⟩, List.mem_of_getElem? (i := 506) (by decide +kernel), List.mem_of_getElem? (i := 719) (by decide +kernel), List.mem_of_getElem? (i := 720) (by decide +kernel)⟩
theorem lw_p33 : lw_okq (⟨"StepWalkModel", "goRepeat", "(I)I"⟩, 38) := ⟨⟨by decide +kernel, by decide +kernel⟩, List.mem_of_getElem? (i := 506) (by decide +kernel), List.mem_of_getElem? (i := 723) (by decide +kernel), List.mem_of_getElem? (i := 724) (by decide +kernel)⟩
theorem lw_p34 : lw_okq (⟨"StepWalkModel", "goRamp", "(I)I"⟩, 38) := ⟨⟨by decide +kernel, by decide +kernel⟩, List.mem_of_getElem? (i := 506) (by decide +kernel), List.mem_of_getElem? (i := 727) (by decide +kernel), List.mem_of_getElem? (i := 728) (by decide +kernel)⟩
theorem lw_p35 : lw_okq (⟨"StepWalkModel", "goClosing", "(I)I"⟩, 38) := ⟨⟨by decide +kernel, by decide +kernel⟩, List.mem_of_getElem? (i := 506) (by decide +kernel), List.mem_of_getElem? (i := 731) (by decide +kernel), List.mem_of_getElem? (i := 732) (by decide +kernel)⟩
theorem lw_p36 : lw_okq (⟨"StepWalkModel", "close", "(I)V"⟩, 38) := ⟨⟨by decide +kernel, by decide +kernel⟩, List.mem_of_getElem? (i := 506) (by decide +kernel), List.mem_of_getElem? (i := 735) (by decide +kernel), List.mem_of_getElem? (i := 736) (by decide +kernel)⟩
theorem lw_p37 : lw_okq (⟨"StepWalkModel", "isOpen", "()Z"⟩, 38) := ⟨⟨by decide +kernel, by decide +kernel⟩, List.mem_of_getElem? (i := 506) (by decide +kernel), List.mem_of_getElem? (i := 747) (by decide +kernel), List.mem_of_getElem? (i := 748) (by decide +kernel)⟩
theorem lw_p38 : lw_okq (⟨"StepWalkModel", "still", "(IZ)I"⟩, 38) := ⟨⟨by decide +kernel, by decide +kernel⟩, List.mem_of_getElem? (i := 506) (by decide +kernel), List.mem_of_getElem? (i := 751) (by decide +kernel), List.mem_of_getElem? (i := 752) (by decide +kernel)⟩
def lw_privs_3 : List (MethodName × Nat) := [(⟨"StepWalkModel", "goBoth", "(I)I"⟩, 38), (⟨"StepWalkModel", "goRepeat", "(I)I"⟩, 38), (⟨"StepWalkModel", "goRamp", "(I)I"⟩, 38), (⟨"StepWalkModel", "goClosing", "(I)I"⟩, 38), (⟨"StepWalkModel", "close", "(I)V"⟩, 38), (⟨"StepWalkModel", "isOpen", "()Z"⟩, 38), (⟨"StepWalkModel", "still", "(IZ)I"⟩, 38)]
theorem lw_r3 : ∀ q ∈ lw_privs_3, lw_okq q := List.forall_mem_cons.mpr ⟨lw_p32, List.forall_mem_cons.mpr ⟨lw_p33, List.forall_mem_cons.mpr ⟨lw_p34, List.forall_mem_cons.mpr ⟨lw_p35, List.forall_mem_cons.mpr ⟨lw_p36, List.forall_mem_cons.mpr ⟨lw_p37, List.forall_mem_cons.mpr ⟨lw_p38, fun _ h => absurd h List.not_mem_nil⟩⟩⟩⟩⟩⟩⟩
def lw_privs : List (MethodName × Nat) := lw_privs_1 ++ (lw_privs_2 ++ (lw_privs_3))
def lw_tbl : List Cond := k2_sels lw_privs ++ tables_1
theorem lw_privs_ok : ∀ q ∈ lw_privs, lw_okq q := by
  show ∀ q ∈ lw_privs_1 ++ (lw_privs_2 ++ (lw_privs_3)), lw_okq q
  exact List.forall_mem_append.mpr ⟨lw_r1, List.forall_mem_append.mpr ⟨lw_r2, lw_r3⟩⟩
end
section
/-! TABLES OF THE PURE MACHINE, written by program (wip/whole/gen.py) out of the claim -/
def zT0 : u_T := fun k => match k with
  | 0 => ("StepWalk$Log", "alarmSeconds", "[I", true)
  | 1 => ("StepWalk$Log", "alarmNodes", "[I", true)
  | 2 => ("StepWalk$Log", "alarmKinds", "[I", true)
  | 3 => ("StepWalk$Log", "closedNodes", "[I", true)
  | 4 => ("StepWalk$Log", "alarms", "I", false)
  | _ => ("StepWalk$Log", "closings", "I", false)
def zt0 : Nat → FieldType := fun k => match k with
  | 0 => .array (.int)
  | 1 => .array (.int)
  | 2 => .array (.int)
  | 3 => .array (.int)
  | 4 => .int
  | _ => .int
def zT1 : u_T := fun k => match k with
  | 0 => ("StepWalk$Part", "what", "I", true)
  | 1 => ("StepWalk$Part", "number", "I", false)
  | 2 => ("StepWalk$Part", "place", "I", false)
  | 3 => ("StepWalk$Part", "v", "J", false)
  | 4 => ("StepWalk$Part", "x", "LStepWalk$Part;", false)
  | 5 => ("StepWalk$Part", "y", "LStepWalk$Part;", false)
  | 6 => ("StepWalk$Part", "first", "LStepWalk$Part;", false)
  | 7 => ("StepWalk$Part", "second", "LStepWalk$Part;", false)
  | 8 => ("StepWalk$Part", "depth", "I", false)
  | 9 => ("StepWalk$Part", "count", "J", false)
  | _ => ("StepWalk$Part", "fitsClosing", "Z", false)
def zt1 : Nat → FieldType := fun k => match k with
  | 0 => .int
  | 1 => .int
  | 2 => .int
  | 3 => .long
  | 4 => .object "StepWalk$Part"
  | 5 => .object "StepWalk$Part"
  | 6 => .object "StepWalk$Part"
  | 7 => .object "StepWalk$Part"
  | 8 => .int
  | 9 => .long
  | _ => .boolean
def zT2 : u_T := fun k => match k with
  | 0 => ("StepWalk$Program", "parts", "[LStepWalk$Part;", true)
  | _ => ("StepWalk$Program", "size", "I", false)
def zt2 : Nat → FieldType := fun k => match k with
  | 0 => .array (.object "StepWalk$Part")
  | _ => .int
def zT3 : u_T := fun k => match k with
  | 0 => ("StepWalk$Spot", "what", "I", false)
  | 1 => ("StepWalk$Spot", "number", "I", false)
  | 2 => ("StepWalk$Spot", "place", "I", false)
  | 3 => ("StepWalk$Spot", "x", "LStepWalk$Part;", false)
  | 4 => ("StepWalk$Spot", "y", "LStepWalk$Part;", false)
  | 5 => ("StepWalk$Spot", "first", "LStepWalk$Spot;", false)
  | 6 => ("StepWalk$Spot", "second", "LStepWalk$Spot;", false)
  | 7 => ("StepWalk$Spot", "stage", "I", false)
  | 8 => ("StepWalk$Spot", "since", "I", false)
  | 9 => ("StepWalk$Spot", "gotX", "J", false)
  | 10 => ("StepWalk$Spot", "gotY", "J", false)
  | 11 => ("StepWalk$Spot", "from", "J", false)
  | _ => ("StepWalk$Spot", "answered", "Z", false)
def zt3 : Nat → FieldType := fun k => match k with
  | 0 => .int
  | 1 => .int
  | 2 => .int
  | 3 => .object "StepWalk$Part"
  | 4 => .object "StepWalk$Part"
  | 5 => .object "StepWalk$Spot"
  | 6 => .object "StepWalk$Spot"
  | 7 => .int
  | 8 => .int
  | 9 => .long
  | 10 => .long
  | 11 => .long
  | _ => .boolean
def zT4 : u_T := fun k => match k with
  | 0 => ("StepWalk$Walk", "world", "LStepWalk$World;", true)
  | 1 => ("StepWalk$Walk", "log", "LStepWalk$Log;", true)
  | 2 => ("StepWalk$Walk", "spots", "[LStepWalk$Spot;", true)
  | 3 => ("StepWalk$Walk", "used", "I", false)
  | 4 => ("StepWalk$Walk", "root", "LStepWalk$Spot;", false)
  | 5 => ("StepWalk$Walk", "state", "I", false)
  | 6 => ("StepWalk$Walk", "second", "I", false)
  | 7 => ("StepWalk$Walk", "begun", "I", false)
  | 8 => ("StepWalk$Walk", "cut", "Z", false)
  | _ => ("StepWalk$Walk", "givingUp", "Z", false)
def zt4 : Nat → FieldType := fun k => match k with
  | 0 => .object "StepWalk$World"
  | 1 => .object "StepWalk$Log"
  | 2 => .array (.object "StepWalk$Spot")
  | 3 => .int
  | 4 => .object "StepWalk$Spot"
  | 5 => .int
  | 6 => .int
  | 7 => .int
  | 8 => .boolean
  | _ => .boolean
def zT5 : u_T := fun k => match k with
  | 0 => ("StepWalk$World", "signals", "[J", true)
  | 1 => ("StepWalk$World", "names", "[J", true)
  | 2 => ("StepWalk$World", "outputs", "[J", true)
  | 3 => ("StepWalk$World", "safes", "[J", true)
  | _ => ("StepWalk$World", "safeTold", "[Z", true)
def zt5 : Nat → FieldType := fun k => match k with
  | 0 => .array (.long)
  | 1 => .array (.long)
  | 2 => .array (.long)
  | 3 => .array (.long)
  | _ => .array (.boolean)
def zT6 : u_T := fun k => match k with
  | 0 => ("StepWalk", "program", "LStepWalk$Program;", true)
  | _ => ("StepWalk", "walk", "LStepWalk$Walk;", true)
def zt6 : Nat → FieldType := fun k => match k with
  | 0 => .object "StepWalk$Program"
  | _ => .object "StepWalk$Walk"
def zT7 : u_T := fun k => match k with
  | 0 => ("StepWalkModel", "nodes", "I", false)
  | 1 => ("StepWalkModel", "whats", "[I", true)
  | 2 => ("StepWalkModel", "as", "[I", true)
  | 3 => ("StepWalkModel", "bs", "[I", true)
  | 4 => ("StepWalkModel", "cs", "[I", true)
  | 5 => ("StepWalkModel", "numbers", "[J", true)
  | 6 => ("StepWalkModel", "depths", "[I", true)
  | 7 => ("StepWalkModel", "sizes", "[I", true)
  | 8 => ("StepWalkModel", "plain", "[Z", true)
  | 9 => ("StepWalkModel", "places", "I", false)
  | 10 => ("StepWalkModel", "of", "[I", true)
  | 11 => ("StepWalkModel", "firsts", "[I", true)
  | 12 => ("StepWalkModel", "seconds", "[I", true)
  | 13 => ("StepWalkModel", "begun", "[Z", true)
  | 14 => ("StepWalkModel", "phases", "[I", true)
  | 15 => ("StepWalkModel", "since", "[J", true)
  | 16 => ("StepWalkModel", "many", "[J", true)
  | 17 => ("StepWalkModel", "goals", "[J", true)
  | 18 => ("StepWalkModel", "starts", "[J", true)
  | 19 => ("StepWalkModel", "signals", "[J", true)
  | 20 => ("StepWalkModel", "names", "[J", true)
  | 21 => ("StepWalkModel", "outputs", "[J", true)
  | 22 => ("StepWalkModel", "safes", "[J", true)
  | 23 => ("StepWalkModel", "hasSafe", "[Z", true)
  | 24 => ("StepWalkModel", "runs", "Z", false)
  | 25 => ("StepWalkModel", "state", "I", false)
  | 26 => ("StepWalkModel", "now", "J", false)
  | 27 => ("StepWalkModel", "begins", "I", false)
  | 28 => ("StepWalkModel", "quiet", "Z", false)
  | 29 => ("StepWalkModel", "bad", "I", false)
  | 30 => ("StepWalkModel", "alarms", "I", false)
  | 31 => ("StepWalkModel", "alarmSeconds", "[I", true)
  | 32 => ("StepWalkModel", "alarmNodes", "[I", true)
  | 33 => ("StepWalkModel", "alarmKinds", "[I", true)
  | 34 => ("StepWalkModel", "closings", "I", false)
  | 35 => ("StepWalkModel", "closedNodes", "[I", true)
  | 36 => ("StepWalkModel", "left", "I", false)
  | _ => ("StepWalkModel", "sums", "[I", true)
def zt7 : Nat → FieldType := fun k => match k with
  | 0 => .int
  | 1 => .array (.int)
  | 2 => .array (.int)
  | 3 => .array (.int)
  | 4 => .array (.int)
  | 5 => .array (.long)
  | 6 => .array (.int)
  | 7 => .array (.int)
  | 8 => .array (.boolean)
  | 9 => .int
  | 10 => .array (.int)
  | 11 => .array (.int)
  | 12 => .array (.int)
  | 13 => .array (.boolean)
  | 14 => .array (.int)
  | 15 => .array (.long)
  | 16 => .array (.long)
  | 17 => .array (.long)
  | 18 => .array (.long)
  | 19 => .array (.long)
  | 20 => .array (.long)
  | 21 => .array (.long)
  | 22 => .array (.long)
  | 23 => .array (.boolean)
  | 24 => .boolean
  | 25 => .int
  | 26 => .long
  | 27 => .int
  | 28 => .boolean
  | 29 => .int
  | 30 => .int
  | 31 => .array (.int)
  | 32 => .array (.int)
  | 33 => .array (.int)
  | 34 => .int
  | 35 => .array (.int)
  | 36 => .int
  | _ => .array (.int)
abbrev vwCl : List vw_C := [("StepWalk$Log", zT0, 6), ("StepWalk$Part", zT1, 11), ("StepWalk$Program", zT2, 2), ("StepWalk$Spot", zT3, 13), ("StepWalk$Walk", zT4, 10), ("StepWalk$World", zT5, 5), ("StepWalk", zT6, 2), ("StepWalkModel", zT7, 38)]
def zFT (ci k : Nat) : FieldType := match ci with
  | 0 => zt0 k
  | 1 => zt1 k
  | 2 => zt2 k
  | 3 => zt3 k
  | 4 => zt4 k
  | 5 => zt5 k
  | 6 => zt6 k
  | _ => zt7 k
def zFin (ci k : Nat) : Bool := match ci with
  | 0 => (zT0 k).2.2.2
  | 1 => (zT1 k).2.2.2
  | 2 => (zT2 k).2.2.2
  | 3 => (zT3 k).2.2.2
  | 4 => (zT4 k).2.2.2
  | 5 => (zT5 k).2.2.2
  | 6 => (zT6 k).2.2.2
  | _ => (zT7 k).2.2.2
def zN (ci : Nat) : Nat := match ci with
  | 0 => 6
  | 1 => 11
  | 2 => 2
  | 3 => 13
  | 4 => 10
  | 5 => 5
  | 6 => 2
  | _ => 38
def zBl (ci k : Nat) : Value := defaultValue (zFT ci k)
def zON (oc : Nat) : String := match oc with
  | 0 => "StepWalk$Log"
  | 1 => "StepWalk$Part"
  | 2 => "StepWalk$Program"
  | 3 => "StepWalk$Spot"
  | 4 => "StepWalk$Walk"
  | 5 => "StepWalk$World"
  | 6 => "StepWalk"
  | 7 => "StepWalkModel"
  | 8 => "StepWalkLaw"
  | 9 => "java/lang/Math"
  | 10 => "java/util/Arrays"
  | _ => "java/lang/Object"
def zNT : Nat := 5
def zAK (k : Nat) : FieldType := match k with
  | 0 => .int
  | 1 => .long
  | 2 => .boolean
  | 3 => .object "StepWalk$Part"
  | _ => .object "StepWalk$Spot"
def zAc (k : Nat) : Option Nat := match k with
  | 3 => some 1
  | 4 => some 3
  | _ => none
def zNA : Jvm.ClassFile.ArrayType → Option Nat
  | .int => some 0
  | .long => some 1
  | .boolean => some 2
  | _ => none
def zLaw : Nat := 109
def zY (k : Nat) : MethodName := match k with
  | 0 => ⟨"java/lang/Object", "<init>", "()V"⟩
  | 1 => ⟨"StepWalk", "<init>", "()V"⟩
  | 2 => ⟨"StepWalk$Program", "<init>", "()V"⟩
  | 3 => ⟨"StepWalk$Walk", "<init>", "()V"⟩
  | 4 => ⟨"StepWalk$World", "<init>", "()V"⟩
  | 5 => ⟨"StepWalk$Log", "<init>", "()V"⟩
  | 6 => ⟨"StepWalk", "leaf", "(IJ)I"⟩
  | 7 => ⟨"StepWalk$Program", "addLeaf", "(IJ)I"⟩
  | 8 => ⟨"StepWalk$Part", "<init>", "(I)V"⟩
  | 9 => ⟨"StepWalk$Program", "add", "(LStepWalk$Part;)I"⟩
  | 10 => ⟨"StepWalk", "node", "(IIII)I"⟩
  | 11 => ⟨"StepWalk$Program", "addNode", "(IIII)I"⟩
  | 12 => ⟨"StepWalk$Program", "takeParts", "(LStepWalk$Part;III)Z"⟩
  | 13 => ⟨"StepWalk$Program", "partAt", "(I)LStepWalk$Part;"⟩
  | 14 => ⟨"StepWalk$Part", "takeExpression", "(LStepWalk$Part;)Z"⟩
  | 15 => ⟨"StepWalk$Part", "isStatement", "()Z"⟩
  | 16 => ⟨"java/lang/Math", "max", "(II)I"⟩
  | 17 => ⟨"StepWalk$Part", "takeStatement", "(LStepWalk$Part;)Z"⟩
  | 18 => ⟨"StepWalk$Part", "takePlace", "(I)Z"⟩
  | 19 => ⟨"StepWalk$Part", "takeClosing", "(LStepWalk$Part;)Z"⟩
  | 20 => ⟨"StepWalk", "signal", "(IJ)Z"⟩
  | 21 => ⟨"StepWalk", "put", "([JIJ)Z"⟩
  | 22 => ⟨"StepWalk", "start", "(I)I"⟩
  | 23 => ⟨"StepWalk$Walk", "beginRun", "(LStepWalk$Part;)V"⟩
  | 24 => ⟨"StepWalk$World", "clearForRun", "()V"⟩
  | 25 => ⟨"java/util/Arrays", "fill", "([JJ)V"⟩
  | 26 => ⟨"StepWalk$Log", "clear", "()V"⟩
  | 27 => ⟨"StepWalk$Walk", "layOut", "(LStepWalk$Part;)LStepWalk$Spot;"⟩
  | 28 => ⟨"StepWalk$Spot", "<init>", "()V"⟩
  | 29 => ⟨"StepWalk$Spot", "lay", "(LStepWalk$Part;)V"⟩
  | 30 => ⟨"StepWalk", "tick", "(I)I"⟩
  | 31 => ⟨"StepWalk$Walk", "doSecond", "()V"⟩
  | 32 => ⟨"StepWalk$Walk", "lookAtLimits", "()V"⟩
  | 33 => ⟨"StepWalk$Walk", "reckon", "(LStepWalk$Part;)J"⟩
  | 34 => ⟨"StepWalk", "get", "([JI)J"⟩
  | 35 => ⟨"StepWalk$Log", "addAlarm", "(III)V"⟩
  | 36 => ⟨"StepWalk$Walk", "giveUp", "(LStepWalk$Spot;)V"⟩
  | 37 => ⟨"StepWalk$Spot", "isOpen", "()Z"⟩
  | 38 => ⟨"StepWalk$Walk", "goOn", "(LStepWalk$Spot;)Z"⟩
  | 39 => ⟨"StepWalk$Walk", "begin", "(LStepWalk$Spot;)Z"⟩
  | 40 => ⟨"StepWalk$Spot", "open", "(IJJ)V"⟩
  | 41 => ⟨"StepWalk$Spot", "renew", "(LStepWalk$Spot;)V"⟩
  | 42 => ⟨"StepWalk$Walk", "takeEffect", "(LStepWalk$Spot;)V"⟩
  | 43 => ⟨"StepWalk$Walk", "advance", "(LStepWalk$Spot;)Z"⟩
  | 44 => ⟨"StepWalk$Walk", "moveRamp", "(LStepWalk$Spot;)Z"⟩
  | 45 => ⟨"java/lang/Math", "floorDiv", "(JJ)J"⟩
  | 46 => ⟨"StepWalk$Walk", "goOnInOrder", "(LStepWalk$Spot;)Z"⟩
  | 47 => ⟨"StepWalk$Log", "addClosed", "(I)V"⟩
  | 48 => ⟨"StepWalk$Walk", "goOnSideBySide", "(LStepWalk$Spot;)Z"⟩
  | 49 => ⟨"StepWalk$Walk", "goOnRepeating", "(LStepWalk$Spot;)Z"⟩
  | 50 => ⟨"StepWalk", "output", "(I)J"⟩
  | 51 => ⟨"StepWalk$World", "hasSafe", "(I)Z"⟩
  | 52 => ⟨"StepWalk", "step", "(I)I"⟩
  | 53 => ⟨"StepWalk$Walk", "nodeStandingStill", "(I)I"⟩
  | 54 => ⟨"StepWalk$Walk", "isLive", "()Z"⟩
  | 55 => ⟨"StepWalk$Spot", "standsStill", "()Z"⟩
  | 56 => ⟨"StepWalk", "alarm", "(II)I"⟩
  | 57 => ⟨"StepWalk$Log", "alarmAt", "(II)I"⟩
  | 58 => ⟨"StepWalk", "answer", "(J)Z"⟩
  | 59 => ⟨"StepWalk$Walk", "answerFirstAsk", "(J)Z"⟩
  | 60 => ⟨"StepWalk", "hold", "(Z)Z"⟩
  | 61 => ⟨"StepWalk$Walk", "setHeld", "(Z)Z"⟩
  | 62 => ⟨"StepWalk", "stop", "()I"⟩
  | 63 => ⟨"StepWalk$Walk", "giveUpAll", "()I"⟩
  | 64 => ⟨"StepWalk", "closed", "(I)I"⟩
  | 65 => ⟨"StepWalk$Log", "closedAt", "(I)I"⟩
  | 66 => ⟨"StepWalk", "value", "(I)J"⟩
  | 67 => ⟨"StepWalk", "safe", "(IJ)Z"⟩
  | 68 => ⟨"StepWalk$World", "tellSafe", "(IJ)Z"⟩
  | 69 => ⟨"StepWalkModel", "<init>", "()V"⟩
  | 70 => ⟨"StepWalkModel", "leaf", "(IJ)I"⟩
  | 71 => ⟨"StepWalkModel", "put", "(IIIIJII)I"⟩
  | 72 => ⟨"StepWalkModel", "node", "(IIII)I"⟩
  | 73 => ⟨"StepWalkModel", "areParts", "(IIII)Z"⟩
  | 74 => ⟨"StepWalkModel", "isStatement", "(I)Z"⟩
  | 75 => ⟨"StepWalkModel", "isNode", "(I)Z"⟩
  | 76 => ⟨"StepWalkModel", "isPlace", "(I)Z"⟩
  | 77 => ⟨"StepWalkModel", "isValue", "(I)Z"⟩
  | 78 => ⟨"StepWalkModel", "depth", "(I)I"⟩
  | 79 => ⟨"StepWalkModel", "signal", "(IJ)Z"⟩
  | 80 => ⟨"StepWalkModel", "start", "(I)I"⟩
  | 81 => ⟨"StepWalkModel", "counted", "(I)I"⟩
  | 82 => ⟨"StepWalkModel", "lay", "(I)I"⟩
  | 83 => ⟨"StepWalkModel", "tick", "(I)I"⟩
  | 84 => ⟨"StepWalkModel", "look", "(I)Z"⟩
  | 85 => ⟨"StepWalkModel", "reckon", "(I)J"⟩
  | 86 => ⟨"StepWalkModel", "isBad", "()Z"⟩
  | 87 => ⟨"StepWalkModel", "note", "(II)V"⟩
  | 88 => ⟨"StepWalkModel", "giveUp", "(I)V"⟩
  | 89 => ⟨"StepWalkModel", "go", "(I)I"⟩
  | 90 => ⟨"StepWalkModel", "begin", "(I)Z"⟩
  | 91 => ⟨"StepWalkModel", "goRow", "(I)I"⟩
  | 92 => ⟨"StepWalkModel", "goUntil", "(I)I"⟩
  | 93 => ⟨"StepWalkModel", "goBoth", "(I)I"⟩
  | 94 => ⟨"StepWalkModel", "goRepeat", "(I)I"⟩
  | 95 => ⟨"StepWalkModel", "goRamp", "(I)I"⟩
  | 96 => ⟨"StepWalkModel", "goClosing", "(I)I"⟩
  | 97 => ⟨"StepWalkModel", "close", "(I)V"⟩
  | 98 => ⟨"StepWalkModel", "output", "(I)J"⟩
  | 99 => ⟨"StepWalkModel", "step", "(I)I"⟩
  | 100 => ⟨"StepWalkModel", "isOpen", "()Z"⟩
  | 101 => ⟨"StepWalkModel", "still", "(IZ)I"⟩
  | 102 => ⟨"StepWalkModel", "alarm", "(II)I"⟩
  | 103 => ⟨"StepWalkModel", "answer", "(J)Z"⟩
  | 104 => ⟨"StepWalkModel", "hold", "(Z)Z"⟩
  | 105 => ⟨"StepWalkModel", "stop", "()I"⟩
  | 106 => ⟨"StepWalkModel", "closed", "(I)I"⟩
  | 107 => ⟨"StepWalkModel", "value", "(I)J"⟩
  | 108 => ⟨"StepWalkModel", "safe", "(IJ)Z"⟩
  | _ => ⟨"StepWalkLaw", "law", "([I)Z"⟩
def zCode (k : Nat) : ByteArray := match k with
  | 0 => object_method_1_code
  | 1 => prog_1_method_1_code
  | 2 => prog_4_method_1_code
  | 3 => prog_6_method_1_code
  | 4 => prog_7_method_1_code
  | 5 => prog_2_method_1_code
  | 6 => prog_1_method_2_code
  | 7 => prog_4_method_3_code
  | 8 => prog_3_method_1_code
  | 9 => prog_4_method_5_code
  | 10 => prog_1_method_3_code
  | 11 => prog_4_method_4_code
  | 12 => prog_4_method_6_code
  | 13 => prog_4_method_2_code
  | 14 => prog_3_method_4_code
  | 15 => prog_3_method_2_code
  | 16 => prog_10_method_65_code
  | 17 => prog_3_method_5_code
  | 18 => prog_3_method_3_code
  | 19 => prog_3_method_6_code
  | 20 => prog_1_method_4_code
  | 21 => prog_1_method_17_code
  | 22 => prog_1_method_5_code
  | 23 => prog_6_method_2_code
  | 24 => prog_7_method_2_code
  | 25 => prog_11_method_101_code
  | 26 => prog_2_method_2_code
  | 27 => prog_6_method_3_code
  | 28 => prog_5_method_1_code
  | 29 => prog_5_method_2_code
  | 30 => prog_1_method_6_code
  | 31 => prog_6_method_4_code
  | 32 => prog_6_method_5_code
  | 33 => prog_6_method_15_code
  | 34 => prog_1_method_16_code
  | 35 => prog_2_method_3_code
  | 36 => prog_6_method_14_code
  | 37 => prog_5_method_4_code
  | 38 => prog_6_method_6_code
  | 39 => prog_6_method_7_code
  | 40 => prog_5_method_3_code
  | 41 => prog_5_method_6_code
  | 42 => prog_6_method_8_code
  | 43 => prog_6_method_9_code
  | 44 => prog_6_method_10_code
  | 45 => prog_10_method_49_code
  | 46 => prog_6_method_11_code
  | 47 => prog_2_method_4_code
  | 48 => prog_6_method_12_code
  | 49 => prog_6_method_13_code
  | 50 => prog_1_method_7_code
  | 51 => prog_7_method_3_code
  | 52 => prog_1_method_8_code
  | 53 => prog_6_method_17_code
  | 54 => prog_6_method_16_code
  | 55 => prog_5_method_5_code
  | 56 => prog_1_method_9_code
  | 57 => prog_2_method_5_code
  | 58 => prog_1_method_10_code
  | 59 => prog_6_method_18_code
  | 60 => prog_1_method_11_code
  | 61 => prog_6_method_19_code
  | 62 => prog_1_method_12_code
  | 63 => prog_6_method_20_code
  | 64 => prog_1_method_13_code
  | 65 => prog_2_method_6_code
  | 66 => prog_1_method_14_code
  | 67 => prog_1_method_15_code
  | 68 => prog_7_method_4_code
  | 69 => prog_9_method_1_code
  | 70 => prog_9_method_2_code
  | 71 => prog_9_method_3_code
  | 72 => prog_9_method_10_code
  | 73 => prog_9_method_9_code
  | 74 => prog_9_method_6_code
  | 75 => prog_9_method_4_code
  | 76 => prog_9_method_7_code
  | 77 => prog_9_method_5_code
  | 78 => prog_9_method_8_code
  | 79 => prog_9_method_11_code
  | 80 => prog_9_method_14_code
  | 81 => prog_9_method_13_code
  | 82 => prog_9_method_12_code
  | 83 => prog_9_method_29_code
  | 84 => prog_9_method_28_code
  | 85 => prog_9_method_15_code
  | 86 => prog_9_method_17_code
  | 87 => prog_9_method_16_code
  | 88 => prog_9_method_27_code
  | 89 => prog_9_method_19_code
  | 90 => prog_9_method_18_code
  | 91 => prog_9_method_20_code
  | 92 => prog_9_method_21_code
  | 93 => prog_9_method_22_code
  | 94 => prog_9_method_23_code
  | 95 => prog_9_method_24_code
  | 96 => prog_9_method_25_code
  | 97 => prog_9_method_26_code
  | 98 => prog_9_method_30_code
  | 99 => prog_9_method_33_code
  | 100 => prog_9_method_31_code
  | 101 => prog_9_method_32_code
  | 102 => prog_9_method_34_code
  | 103 => prog_9_method_35_code
  | 104 => prog_9_method_36_code
  | 105 => prog_9_method_37_code
  | 106 => prog_9_method_38_code
  | 107 => prog_9_method_39_code
  | 108 => prog_9_method_40_code
  | _ => code
def zML (k : Nat) : Nat := match k with
  | 0 => 1
  | 1 => 1
  | 2 => 1
  | 3 => 1
  | 4 => 1
  | 5 => 1
  | 6 => 4
  | 7 => 5
  | 8 => 2
  | 9 => 2
  | 10 => 5
  | 11 => 6
  | 12 => 5
  | 13 => 2
  | 14 => 2
  | 15 => 1
  | 16 => 2
  | 17 => 2
  | 18 => 2
  | 19 => 2
  | 20 => 4
  | 21 => 4
  | 22 => 3
  | 23 => 2
  | 24 => 1
  | 25 => 5
  | 26 => 1
  | 27 => 3
  | 28 => 1
  | 29 => 2
  | 30 => 3
  | 31 => 2
  | 32 => 3
  | 33 => 6
  | 34 => 2
  | 35 => 4
  | 36 => 2
  | 37 => 1
  | 38 => 2
  | 39 => 6
  | 40 => 6
  | 41 => 1
  | 42 => 2
  | 43 => 2
  | 44 => 6
  | 45 => 6
  | 46 => 2
  | 47 => 2
  | 48 => 4
  | 49 => 3
  | 50 => 2
  | 51 => 2
  | 52 => 2
  | 53 => 5
  | 54 => 1
  | 55 => 1
  | 56 => 3
  | 57 => 3
  | 58 => 3
  | 59 => 5
  | 60 => 2
  | 61 => 4
  | 62 => 1
  | 63 => 2
  | 64 => 2
  | 65 => 2
  | 66 => 2
  | 67 => 4
  | 68 => 4
  | 69 => 1
  | 70 => 4
  | 71 => 10
  | 72 => 13
  | 73 => 5
  | 74 => 2
  | 75 => 2
  | 76 => 1
  | 77 => 2
  | 78 => 2
  | 79 => 4
  | 80 => 5
  | 81 => 5
  | 82 => 5
  | 83 => 4
  | 84 => 4
  | 85 => 6
  | 86 => 1
  | 87 => 3
  | 88 => 4
  | 89 => 2
  | 90 => 10
  | 91 => 3
  | 92 => 4
  | 93 => 4
  | 94 => 3
  | 95 => 9
  | 96 => 3
  | 97 => 2
  | 98 => 2
  | 99 => 3
  | 100 => 1
  | 101 => 5
  | 102 => 3
  | 103 => 4
  | 104 => 2
  | 105 => 2
  | 106 => 2
  | 107 => 2
  | 108 => 4
  | _ => 4
def zRT (k : Nat) : Option FieldType := match k with
  | 0 => (Option.none : Option Jvm.ClassFile.FieldType)
  | 1 => (Option.none : Option Jvm.ClassFile.FieldType)
  | 2 => (Option.none : Option Jvm.ClassFile.FieldType)
  | 3 => (Option.none : Option Jvm.ClassFile.FieldType)
  | 4 => (Option.none : Option Jvm.ClassFile.FieldType)
  | 5 => (Option.none : Option Jvm.ClassFile.FieldType)
  | 6 => (Option.some Jvm.ClassFile.FieldType.int)
  | 7 => (Option.some Jvm.ClassFile.FieldType.int)
  | 8 => (Option.none : Option Jvm.ClassFile.FieldType)
  | 9 => (Option.some Jvm.ClassFile.FieldType.int)
  | 10 => (Option.some Jvm.ClassFile.FieldType.int)
  | 11 => (Option.some Jvm.ClassFile.FieldType.int)
  | 12 => (Option.some Jvm.ClassFile.FieldType.boolean)
  | 13 => (Option.some (Jvm.ClassFile.FieldType.object "StepWalk$Part"))
  | 14 => (Option.some Jvm.ClassFile.FieldType.boolean)
  | 15 => (Option.some Jvm.ClassFile.FieldType.boolean)
  | 16 => (Option.some Jvm.ClassFile.FieldType.int)
  | 17 => (Option.some Jvm.ClassFile.FieldType.boolean)
  | 18 => (Option.some Jvm.ClassFile.FieldType.boolean)
  | 19 => (Option.some Jvm.ClassFile.FieldType.boolean)
  | 20 => (Option.some Jvm.ClassFile.FieldType.boolean)
  | 21 => (Option.some Jvm.ClassFile.FieldType.boolean)
  | 22 => (Option.some Jvm.ClassFile.FieldType.int)
  | 23 => (Option.none : Option Jvm.ClassFile.FieldType)
  | 24 => (Option.none : Option Jvm.ClassFile.FieldType)
  | 25 => (Option.none : Option Jvm.ClassFile.FieldType)
  | 26 => (Option.none : Option Jvm.ClassFile.FieldType)
  | 27 => (Option.some (Jvm.ClassFile.FieldType.object "StepWalk$Spot"))
  | 28 => (Option.none : Option Jvm.ClassFile.FieldType)
  | 29 => (Option.none : Option Jvm.ClassFile.FieldType)
  | 30 => (Option.some Jvm.ClassFile.FieldType.int)
  | 31 => (Option.none : Option Jvm.ClassFile.FieldType)
  | 32 => (Option.none : Option Jvm.ClassFile.FieldType)
  | 33 => (Option.some Jvm.ClassFile.FieldType.long)
  | 34 => (Option.some Jvm.ClassFile.FieldType.long)
  | 35 => (Option.none : Option Jvm.ClassFile.FieldType)
  | 36 => (Option.none : Option Jvm.ClassFile.FieldType)
  | 37 => (Option.some Jvm.ClassFile.FieldType.boolean)
  | 38 => (Option.some Jvm.ClassFile.FieldType.boolean)
  | 39 => (Option.some Jvm.ClassFile.FieldType.boolean)
  | 40 => (Option.none : Option Jvm.ClassFile.FieldType)
  | 41 => (Option.none : Option Jvm.ClassFile.FieldType)
  | 42 => (Option.none : Option Jvm.ClassFile.FieldType)
  | 43 => (Option.some Jvm.ClassFile.FieldType.boolean)
  | 44 => (Option.some Jvm.ClassFile.FieldType.boolean)
  | 45 => (Option.some Jvm.ClassFile.FieldType.long)
  | 46 => (Option.some Jvm.ClassFile.FieldType.boolean)
  | 47 => (Option.none : Option Jvm.ClassFile.FieldType)
  | 48 => (Option.some Jvm.ClassFile.FieldType.boolean)
  | 49 => (Option.some Jvm.ClassFile.FieldType.boolean)
  | 50 => (Option.some Jvm.ClassFile.FieldType.long)
  | 51 => (Option.some Jvm.ClassFile.FieldType.boolean)
  | 52 => (Option.some Jvm.ClassFile.FieldType.int)
  | 53 => (Option.some Jvm.ClassFile.FieldType.int)
  | 54 => (Option.some Jvm.ClassFile.FieldType.boolean)
  | 55 => (Option.some Jvm.ClassFile.FieldType.boolean)
  | 56 => (Option.some Jvm.ClassFile.FieldType.int)
  | 57 => (Option.some Jvm.ClassFile.FieldType.int)
  | 58 => (Option.some Jvm.ClassFile.FieldType.boolean)
  | 59 => (Option.some Jvm.ClassFile.FieldType.boolean)
  | 60 => (Option.some Jvm.ClassFile.FieldType.boolean)
  | 61 => (Option.some Jvm.ClassFile.FieldType.boolean)
  | 62 => (Option.some Jvm.ClassFile.FieldType.int)
  | 63 => (Option.some Jvm.ClassFile.FieldType.int)
  | 64 => (Option.some Jvm.ClassFile.FieldType.int)
  | 65 => (Option.some Jvm.ClassFile.FieldType.int)
  | 66 => (Option.some Jvm.ClassFile.FieldType.long)
  | 67 => (Option.some Jvm.ClassFile.FieldType.boolean)
  | 68 => (Option.some Jvm.ClassFile.FieldType.boolean)
  | 69 => (Option.none : Option Jvm.ClassFile.FieldType)
  | 70 => (Option.some Jvm.ClassFile.FieldType.int)
  | 71 => (Option.some Jvm.ClassFile.FieldType.int)
  | 72 => (Option.some Jvm.ClassFile.FieldType.int)
  | 73 => (Option.some Jvm.ClassFile.FieldType.boolean)
  | 74 => (Option.some Jvm.ClassFile.FieldType.boolean)
  | 75 => (Option.some Jvm.ClassFile.FieldType.boolean)
  | 76 => (Option.some Jvm.ClassFile.FieldType.boolean)
  | 77 => (Option.some Jvm.ClassFile.FieldType.boolean)
  | 78 => (Option.some Jvm.ClassFile.FieldType.int)
  | 79 => (Option.some Jvm.ClassFile.FieldType.boolean)
  | 80 => (Option.some Jvm.ClassFile.FieldType.int)
  | 81 => (Option.some Jvm.ClassFile.FieldType.int)
  | 82 => (Option.some Jvm.ClassFile.FieldType.int)
  | 83 => (Option.some Jvm.ClassFile.FieldType.int)
  | 84 => (Option.some Jvm.ClassFile.FieldType.boolean)
  | 85 => (Option.some Jvm.ClassFile.FieldType.long)
  | 86 => (Option.some Jvm.ClassFile.FieldType.boolean)
  | 87 => (Option.none : Option Jvm.ClassFile.FieldType)
  | 88 => (Option.none : Option Jvm.ClassFile.FieldType)
  | 89 => (Option.some Jvm.ClassFile.FieldType.int)
  | 90 => (Option.some Jvm.ClassFile.FieldType.boolean)
  | 91 => (Option.some Jvm.ClassFile.FieldType.int)
  | 92 => (Option.some Jvm.ClassFile.FieldType.int)
  | 93 => (Option.some Jvm.ClassFile.FieldType.int)
  | 94 => (Option.some Jvm.ClassFile.FieldType.int)
  | 95 => (Option.some Jvm.ClassFile.FieldType.int)
  | 96 => (Option.some Jvm.ClassFile.FieldType.int)
  | 97 => (Option.none : Option Jvm.ClassFile.FieldType)
  | 98 => (Option.some Jvm.ClassFile.FieldType.long)
  | 99 => (Option.some Jvm.ClassFile.FieldType.int)
  | 100 => (Option.some Jvm.ClassFile.FieldType.boolean)
  | 101 => (Option.some Jvm.ClassFile.FieldType.int)
  | 102 => (Option.some Jvm.ClassFile.FieldType.int)
  | 103 => (Option.some Jvm.ClassFile.FieldType.boolean)
  | 104 => (Option.some Jvm.ClassFile.FieldType.boolean)
  | 105 => (Option.some Jvm.ClassFile.FieldType.int)
  | 106 => (Option.some Jvm.ClassFile.FieldType.int)
  | 107 => (Option.some Jvm.ClassFile.FieldType.long)
  | 108 => (Option.some Jvm.ClassFile.FieldType.boolean)
  | _ => some .boolean
def zOC (k : Nat) : Nat := match k with
  | 0 => 11
  | 1 => 6
  | 2 => 2
  | 3 => 4
  | 4 => 5
  | 5 => 0
  | 6 => 6
  | 7 => 2
  | 8 => 1
  | 9 => 2
  | 10 => 6
  | 11 => 2
  | 12 => 2
  | 13 => 2
  | 14 => 1
  | 15 => 1
  | 16 => 9
  | 17 => 1
  | 18 => 1
  | 19 => 1
  | 20 => 6
  | 21 => 6
  | 22 => 6
  | 23 => 4
  | 24 => 5
  | 25 => 10
  | 26 => 0
  | 27 => 4
  | 28 => 3
  | 29 => 3
  | 30 => 6
  | 31 => 4
  | 32 => 4
  | 33 => 4
  | 34 => 6
  | 35 => 0
  | 36 => 4
  | 37 => 3
  | 38 => 4
  | 39 => 4
  | 40 => 3
  | 41 => 3
  | 42 => 4
  | 43 => 4
  | 44 => 4
  | 45 => 9
  | 46 => 4
  | 47 => 0
  | 48 => 4
  | 49 => 4
  | 50 => 6
  | 51 => 5
  | 52 => 6
  | 53 => 4
  | 54 => 4
  | 55 => 3
  | 56 => 6
  | 57 => 0
  | 58 => 6
  | 59 => 4
  | 60 => 6
  | 61 => 4
  | 62 => 6
  | 63 => 4
  | 64 => 6
  | 65 => 0
  | 66 => 6
  | 67 => 6
  | 68 => 5
  | 69 => 7
  | 70 => 7
  | 71 => 7
  | 72 => 7
  | 73 => 7
  | 74 => 7
  | 75 => 7
  | 76 => 7
  | 77 => 7
  | 78 => 7
  | 79 => 7
  | 80 => 7
  | 81 => 7
  | 82 => 7
  | 83 => 7
  | 84 => 7
  | 85 => 7
  | 86 => 7
  | 87 => 7
  | 88 => 7
  | 89 => 7
  | 90 => 7
  | 91 => 7
  | 92 => 7
  | 93 => 7
  | 94 => 7
  | 95 => 7
  | 96 => 7
  | 97 => 7
  | 98 => 7
  | 99 => 7
  | 100 => 7
  | 101 => 7
  | 102 => 7
  | 103 => 7
  | 104 => 7
  | 105 => 7
  | 106 => 7
  | 107 => 7
  | 108 => 7
  | _ => 8
def zRC (k : Nat) : Option Nat := if zOC k < 8 then some (zOC k) else none
def zKK : Nat := 32
/-- a field: whose pool, its index, the class, the field, the place of its word -/
def zFldL : List (Nat × Nat × Nat × Nat × Nat) := [(2, 11, 2, 0, 27), (2, 17, 2, 1, 28), (5, 9, 5, 0, 46), (6, 35, 5, 0, 47), (4, 196, 5, 0, 48), (5, 15, 5, 1, 49), (4, 144, 5, 1, 50), (6, 115, 5, 1, 51), (5, 18, 5, 2, 52), (6, 83, 5, 2, 53), (4, 129, 5, 2, 54), (5, 21, 5, 3, 55), (6, 76, 5, 3, 56), (5, 24, 5, 4, 57), (0, 9, 0, 0, 77), (0, 15, 0, 1, 78), (0, 18, 0, 2, 79), (0, 21, 0, 3, 80), (0, 24, 0, 4, 81), (0, 28, 0, 5, 82), (4, 209, 0, 5, 83), (4, 12, 4, 0, 100), (6, 31, 4, 0, 101), (4, 21, 4, 1, 102), (6, 90, 4, 1, 103), (4, 27, 4, 2, 104), (4, 44, 4, 3, 105), (4, 51, 4, 4, 106), (4, 31, 4, 5, 107), (6, 65, 4, 5, 108), (4, 41, 4, 6, 109), (4, 72, 4, 7, 110), (4, 82, 4, 8, 111), (4, 116, 4, 9, 112), (6, 10, 6, 0, 134), (6, 19, 6, 1, 135), (1, 19, 1, 0, 154), (3, 9, 1, 0, 155), (2, 28, 1, 0, 156), (4, 192, 1, 0, 157), (3, 18, 1, 1, 158), (2, 56, 1, 1, 159), (4, 202, 1, 1, 160), (3, 22, 1, 2, 161), (1, 26, 1, 2, 162), (2, 33, 1, 2, 163), (4, 199, 1, 2, 164), (2, 24, 1, 3, 165), (4, 193, 1, 3, 166), (3, 26, 1, 4, 167), (1, 33, 1, 4, 168), (4, 200, 1, 4, 169), (3, 31, 1, 5, 170), (1, 37, 1, 5, 171), (4, 201, 1, 5, 172), (4, 60, 1, 6, 173), (1, 46, 1, 6, 174), (4, 68, 1, 7, 175), (1, 49, 1, 7, 176), (1, 9, 1, 8, 177), (2, 44, 1, 8, 178), (1, 15, 1, 9, 179), (2, 51, 1, 9, 180), (6, 55, 1, 9, 181), (1, 22, 1, 10, 182), (3, 15, 3, 0, 291), (4, 86, 3, 0, 292), (3, 21, 3, 1, 293), (4, 99, 3, 1, 294), (3, 25, 3, 2, 295), (4, 133, 3, 2, 296), (3, 30, 3, 3, 297), (4, 92, 3, 3, 298), (3, 34, 3, 4, 299), (4, 119, 3, 4, 300), (3, 52, 3, 5, 301), (4, 66, 3, 5, 302), (3, 60, 3, 6, 303), (4, 70, 3, 6, 304), (3, 35, 3, 7, 305), (4, 89, 3, 7, 306), (3, 38, 3, 8, 307), (4, 154, 3, 8, 308), (3, 41, 3, 9, 309), (4, 136, 3, 9, 310), (3, 45, 3, 10, 311), (4, 172, 3, 10, 312), (4, 151, 3, 11, 313), (3, 48, 3, 12, 314), (4, 160, 3, 12, 315), (7, 99, 7, 0, 511), (7, 9, 7, 1, 512), (7, 13, 7, 2, 513), (7, 16, 7, 3, 514), (7, 19, 7, 4, 515), (7, 22, 7, 5, 516), (7, 26, 7, 6, 517), (7, 29, 7, 7, 518), (7, 32, 7, 8, 519), (7, 127, 7, 9, 520), (7, 36, 7, 10, 521), (7, 39, 7, 11, 522), (7, 42, 7, 12, 523), (7, 45, 7, 13, 524), (7, 48, 7, 14, 525), (7, 51, 7, 15, 526), (7, 54, 7, 16, 527), (7, 57, 7, 17, 528), (7, 60, 7, 18, 529), (7, 63, 7, 19, 530), (7, 66, 7, 20, 531), (7, 69, 7, 21, 532), (7, 72, 7, 22, 533), (7, 75, 7, 23, 534), (7, 136, 7, 24, 535), (7, 140, 7, 25, 536), (7, 143, 7, 26, 537), (7, 164, 7, 27, 538), (7, 153, 7, 28, 539), (7, 78, 7, 29, 540), (7, 147, 7, 30, 541), (7, 82, 7, 31, 542), (7, 85, 7, 32, 543), (7, 88, 7, 33, 544), (7, 150, 7, 34, 545), (7, 91, 7, 35, 546), (7, 209, 7, 36, 547), (7, 94, 7, 37, 548)]
def zFld (oc idx : Nat) : Option (Nat × Nat) := (zFldL.find? (fun q => q.1 == oc && q.2.1 == idx)).map fun q => (q.2.2.1, q.2.2.2.1)
def zNewL : List (Nat × Nat × Nat × Nat × Nat × Nat) := [(8, 7, 6, 11, 12, 1), (6, 7, 2, 19, 20, 2), (2, 9, 1, 25, 149, 7), (6, 16, 4, 34, 35, 3), (4, 9, 5, 40, 41, 4), (4, 18, 0, 71, 72, 5), (4, 25, 3, 98, 286, 10), (8, 10, 7, 505, 506, 6)]
def zNew (oc idx : Nat) : Option Nat := (zNewL.find? (fun q => q.1 == oc && q.2.1 == idx)).map fun q => q.2.2.1
def zANL : List (Nat × Nat × Nat × Nat × Nat) := [(2, 9, 3, 25, 26), (4, 25, 4, 98, 99)]
def zAN (oc idx : Nat) : Option Nat := (zANL.find? (fun q => q.1 == oc && q.2.1 == idx)).map fun q => q.2.2.1
def zLd (_ _ : Nat) : Option Int32 := none
def zLd2L : List (Nat × Nat × Int64 × Nat) := [(2, 31, 16, 206), (2, 54, 200, 252), (6, 59, 500, 266), (7, 97, 15, 630), (8, 13, 4294967295, 782)]
def zLd2 (oc idx : Nat) : Option Int64 := (zLd2L.find? (fun q => q.1 == oc && q.2.1 == idx)).map fun q => q.2.2.1
/-- a call: whose pool, its index, the method, how many arguments, how (0 virtual, 1 a constructor, 2 static, 3 of Object), the place of its word, whether of the nest -/
def zMtL : List (Nat × Nat × Nat × Nat × Nat × Nat × Nat) := [(8, 9, 1, 0, 1, 13, 0), (6, 1, 0, 0, 3, 16, 0), (2, 3, 0, 0, 3, 24, 0), (4, 3, 0, 0, 3, 39, 0), (5, 3, 0, 0, 3, 45, 0), (0, 3, 0, 0, 3, 76, 0), (8, 15, 6, 2, 0, 141, 0), (6, 23, 7, 2, 0, 145, 0), (2, 21, 8, 1, 1, 150, 0), (1, 3, 0, 0, 3, 153, 0), (2, 36, 9, 1, 0, 207, 0), (8, 20, 10, 4, 0, 211, 0), (6, 27, 11, 4, 0, 215, 0), (2, 40, 12, 4, 0, 219, 0), (2, 59, 13, 1, 0, 223, 0), (2, 63, 14, 1, 0, 227, 0), (1, 29, 15, 0, 0, 231, 0), (1, 40, 16, 2, 2, 235, 0), (2, 67, 17, 1, 0, 238, 0), (2, 70, 18, 1, 0, 242, 0), (2, 74, 19, 1, 0, 246, 0), (1, 52, 17, 1, 0, 250, 0), (2, 47, 15, 0, 0, 251, 0), (8, 25, 20, 2, 0, 253, 0), (6, 41, 21, 3, 2, 257, 0), (8, 30, 22, 1, 0, 260, 0), (6, 45, 13, 1, 0, 264, 0), (6, 49, 15, 0, 0, 265, 0), (6, 61, 23, 1, 0, 267, 0), (4, 35, 24, 0, 0, 271, 0), (5, 28, 25, 2, 2, 275, 0), (4, 38, 26, 0, 0, 278, 0), (4, 47, 27, 1, 0, 282, 0), (3, 3, 0, 0, 3, 290, 0), (4, 56, 29, 1, 0, 343, 0), (8, 35, 30, 1, 0, 347, 0), (6, 69, 31, 0, 0, 351, 0), (4, 75, 32, 0, 0, 355, 0), (4, 95, 33, 1, 0, 359, 0), (4, 102, 35, 3, 0, 366, 0), (4, 106, 36, 1, 0, 370, 0), (4, 188, 37, 0, 0, 374, 0), (4, 78, 38, 1, 0, 378, 0), (4, 110, 39, 1, 0, 382, 0), (4, 122, 40, 3, 0, 386, 0), (3, 56, 41, 1, 2, 390, 0), (4, 126, 42, 1, 0, 393, 0), (4, 113, 43, 1, 0, 398, 0), (4, 157, 44, 1, 0, 402, 0), (4, 175, 45, 2, 2, 406, 0), (4, 163, 46, 1, 0, 409, 0), (4, 181, 47, 1, 0, 413, 0), (4, 166, 48, 1, 0, 417, 0), (4, 169, 49, 1, 0, 421, 0), (4, 185, 41, 1, 2, 425, 0), (8, 39, 50, 1, 0, 426, 0), (6, 72, 51, 1, 0, 430, 0), (6, 79, 34, 2, 2, 434, 0), (8, 44, 52, 1, 0, 435, 0), (6, 86, 53, 1, 0, 439, 0), (4, 203, 54, 0, 0, 443, 0), (4, 206, 55, 0, 0, 447, 0), (3, 63, 37, 0, 0, 451, 0), (8, 48, 56, 2, 0, 452, 0), (6, 94, 57, 2, 0, 456, 0), (8, 53, 58, 1, 0, 460, 0), (6, 100, 59, 1, 0, 464, 0), (8, 58, 60, 1, 0, 468, 0), (6, 104, 61, 1, 0, 472, 0), (8, 63, 62, 0, 0, 476, 0), (6, 108, 63, 0, 0, 480, 0), (8, 68, 64, 1, 0, 484, 0), (6, 112, 65, 1, 0, 488, 0), (8, 72, 66, 1, 0, 492, 0), (8, 76, 67, 2, 0, 496, 0), (6, 118, 68, 2, 0, 500, 0), (8, 12, 69, 0, 1, 507, 0), (7, 1, 0, 0, 3, 510, 0), (8, 19, 70, 2, 0, 626, 0), (7, 102, 71, 7, 0, 631, 0), (8, 24, 72, 4, 0, 635, 0), (7, 119, 73, 4, 0, 639, 0), (7, 110, 74, 1, 0, 643, 0), (7, 106, 75, 1, 0, 647, 0), (7, 113, 76, 1, 2, 651, 0), (7, 116, 77, 1, 0, 654, 0), (7, 123, 78, 1, 0, 658, 0), (8, 29, 79, 2, 0, 662, 0), (8, 34, 80, 1, 0, 666, 0), (7, 133, 81, 1, 0, 670, 0), (7, 130, 82, 1, 0, 674, 0), (8, 38, 83, 1, 0, 678, 0), (7, 202, 84, 1, 0, 682, 0), (7, 156, 85, 1, 0, 686, 0), (7, 167, 86, 0, 0, 690, 0), (7, 160, 87, 2, 0, 694, 0), (7, 199, 88, 1, 0, 698, 0), (7, 183, 89, 1, 0, 702, 0), (7, 171, 90, 1, 0, 706, 0), (7, 174, 91, 1, 0, 710, 0), (7, 177, 92, 1, 0, 714, 0), (7, 180, 93, 1, 0, 718, 0), (7, 186, 94, 1, 0, 722, 0), (7, 189, 95, 1, 0, 726, 0), (7, 192, 96, 1, 0, 730, 0), (7, 195, 97, 1, 0, 734, 0), (8, 43, 98, 1, 0, 738, 0), (8, 47, 99, 1, 0, 742, 0), (7, 212, 100, 0, 0, 746, 0), (7, 205, 101, 2, 0, 750, 0), (8, 52, 102, 2, 0, 754, 0), (8, 57, 103, 1, 0, 758, 0), (8, 62, 104, 1, 0, 762, 0), (8, 67, 105, 0, 0, 766, 0), (8, 71, 106, 1, 0, 770, 0), (8, 75, 107, 1, 0, 774, 0), (8, 79, 108, 2, 0, 778, 0), (6, 9, 2, 0, 1, 21, 1), (6, 18, 3, 0, 1, 36, 1), (4, 11, 4, 0, 1, 42, 1), (4, 20, 5, 0, 1, 73, 1), (4, 55, 28, 0, 1, 287, 1), (4, 147, 34, 2, 2, 363, 1), (4, 140, 21, 3, 2, 397, 1), (5, 34, 21, 3, 2, 504, 1)]
def zMt (oc idx : Nat) : Option (Nat × Nat × Nat) := (zMtL.find? (fun q => q.1 == oc && q.2.1 == idx)).map fun q => (q.2.2.1, q.2.2.2.1, q.2.2.2.2.1)
/-- a method: the places of its code, of its class is initialized, that it is of an instance (or static), that it is selected (in lw_tbl) -/
def zMkL : List (Nat × Nat × Nat × Nat) := [(18, 9999, 17, 99999), (15, 1, 14, 99999), (23, 2, 22, 99999), (38, 3, 37, 99999), (44, 4, 43, 99999), (75, 5, 74, 99999), (144, 1, 142, 182), (148, 2, 146, 186), (152, 7, 151, 99999), (210, 2, 209, 0), (214, 1, 212, 252), (218, 2, 216, 256), (222, 2, 221, 1), (226, 2, 224, 264), (230, 7, 228, 268), (234, 7, 232, 272), (237, 8, 236, 99999), (241, 7, 239, 279), (245, 7, 243, 283), (249, 7, 247, 287), (256, 1, 254, 294), (259, 1, 258, 99999), (263, 1, 261, 301), (270, 3, 268, 308), (274, 4, 272, 312), (277, 9, 276, 99999), (281, 5, 279, 319), (285, 3, 284, 2), (289, 10, 288, 99999), (346, 10, 344, 384), (350, 1, 348, 388), (354, 3, 352, 392), (358, 3, 357, 3), (362, 3, 361, 4), (365, 1, 364, 99999), (369, 5, 367, 407), (373, 3, 372, 5), (377, 10, 375, 415), (381, 3, 380, 6), (385, 3, 384, 7), (389, 10, 387, 427), (392, 10, 391, 99999), (396, 3, 395, 8), (401, 3, 400, 9), (405, 3, 404, 10), (408, 8, 407, 99999), (412, 3, 411, 11), (416, 5, 414, 454), (420, 3, 419, 12), (424, 3, 423, 13), (429, 1, 427, 467), (433, 4, 431, 471), (438, 1, 436, 476), (442, 3, 440, 480), (446, 3, 445, 14), (450, 10, 448, 488), (455, 1, 453, 493), (459, 5, 457, 497), (463, 1, 461, 501), (467, 3, 465, 505), (471, 1, 469, 509), (475, 3, 473, 513), (479, 1, 477, 517), (483, 3, 481, 521), (487, 1, 485, 525), (491, 5, 489, 529), (495, 1, 493, 533), (499, 1, 497, 537), (503, 4, 501, 541), (509, 6, 508, 99999), (629, 6, 627, 667), (634, 6, 633, 15), (638, 6, 636, 676), (642, 6, 641, 16), (646, 6, 645, 17), (650, 6, 649, 18), (653, 6, 652, 99999), (657, 6, 656, 19), (661, 6, 660, 20), (665, 6, 663, 703), (669, 6, 667, 707), (673, 6, 672, 21), (677, 6, 676, 22), (681, 6, 679, 719), (685, 6, 684, 23), (689, 6, 688, 24), (693, 6, 692, 25), (697, 6, 696, 26), (701, 6, 700, 27), (705, 6, 704, 28), (709, 6, 708, 29), (713, 6, 712, 30), (717, 6, 716, 31), (721, 6, 720, 32), (725, 6, 724, 33), (729, 6, 728, 34), (733, 6, 732, 35), (737, 6, 736, 36), (741, 6, 739, 779), (745, 6, 743, 783), (749, 6, 748, 37), (753, 6, 752, 38), (757, 6, 755, 795), (761, 6, 759, 799), (765, 6, 763, 803), (769, 6, 767, 807), (773, 6, 771, 811), (777, 6, 775, 815), (781, 6, 779, 819)]
end
section
theorem z_gd {α : Type} {n pc : Nat} {x : Option α} {q : α} (h : cond (Nat.ble n pc) none x = some q) : pc < n ∧ x = some q := by
  cases hb : Nat.ble n pc with
  | true => rw [hb] at h; cases h
  | false =>
    rw [hb] at h
    refine ⟨Nat.not_le.mp fun hle => ?_, h⟩
    rw [Nat.ble_eq_true_of_le hle] at hb
    cases hb
theorem z_ck {f : Nat → Option (Jvm.ClassFile.Instr × Nat)} {cc : ByteArray} {a n pc : Nat} {q : Jvm.ClassFile.Instr × Nat} (hl : (List.range' a n).all (fun pc => match f pc with | some q => decide (decode cc pc = .ok q) | none => true) = true) (h1 : a ≤ pc) (h2 : pc < a + n) (h : f pc = some q) : decode cc pc = .ok q := by
  have h3 := List.all_eq_true.mp hl pc (List.mem_range'_1.mpr ⟨h1, h2⟩)
  rw [h] at h3
  exact of_decide_eq_true h3
end
section
/-! decoded code, by program (wip/whole/gen2.py) -/
def zI0 (pc : Nat) : Option (Jvm.ClassFile.Instr × Nat) := cond (Nat.ble 1 pc) none (cond (Nat.beq pc 0) (some (.return_, 1)) none)
set_option maxRecDepth 100000 in
theorem zd0_0 : (List.range' 0 1).all (fun pc => match zI0 pc with | some q => decide (decode (zCode 0) pc = .ok q) | none => true) = true := by decide +kernel
theorem zJ0 {pc : Nat} {q : Jvm.ClassFile.Instr × Nat} (h : zI0 pc = some q) : decode (zCode 0) pc = .ok q := by
  have hb := (z_gd (n := 1) (pc := pc) h).1
  exact z_ck zd0_0 (by omega) (by omega) h
def zI1 (pc : Nat) : Option (Jvm.ClassFile.Instr × Nat) := cond (Nat.ble 27 pc) none (cond (Nat.ble pc 9) (cond (Nat.ble pc 4) (cond (Nat.ble pc 0) (cond (Nat.beq pc 0) (some (.aload_n 0, 1)) none) (cond (Nat.ble pc 1) (cond (Nat.beq pc 1) (some (.invokespecial 1, 3)) none) (cond (Nat.beq pc 4) (some (.aload_n 0, 1)) none))) (cond (Nat.ble pc 5) (cond (Nat.beq pc 5) (some (.new 7, 3)) none) (cond (Nat.ble pc 8) (cond (Nat.beq pc 8) (some (.dup, 1)) none) (cond (Nat.beq pc 9) (some (.invokespecial 9, 3)) none)))) (cond (Nat.ble pc 16) (cond (Nat.ble pc 12) (cond (Nat.beq pc 12) (some (.putfield 10, 3)) none) (cond (Nat.ble pc 15) (cond (Nat.beq pc 15) (some (.aload_n 0, 1)) none) (cond (Nat.beq pc 16) (some (.new 16, 3)) none))) (cond (Nat.ble pc 20) (cond (Nat.ble pc 19) (cond (Nat.beq pc 19) (some (.dup, 1)) none) (cond (Nat.beq pc 20) (some (.invokespecial 18, 3)) none)) (cond (Nat.ble pc 23) (cond (Nat.beq pc 23) (some (.putfield 19, 3)) none) (cond (Nat.beq pc 26) (some (.return_, 1)) none)))))
set_option maxRecDepth 100000 in
theorem zd1_0 : (List.range' 0 27).all (fun pc => match zI1 pc with | some q => decide (decode (zCode 1) pc = .ok q) | none => true) = true := by decide +kernel
theorem zJ1 {pc : Nat} {q : Jvm.ClassFile.Instr × Nat} (h : zI1 pc = some q) : decode (zCode 1) pc = .ok q := by
  have hb := (z_gd (n := 27) (pc := pc) h).1
  exact z_ck zd1_0 (by omega) (by omega) h
def zI2 (pc : Nat) : Option (Jvm.ClassFile.Instr × Nat) := cond (Nat.ble 15 pc) none (cond (Nat.ble pc 4) (cond (Nat.ble pc 0) (cond (Nat.beq pc 0) (some (.aload_n 0, 1)) none) (cond (Nat.ble pc 1) (cond (Nat.beq pc 1) (some (.invokespecial 3, 3)) none) (cond (Nat.beq pc 4) (some (.aload_n 0, 1)) none))) (cond (Nat.ble pc 8) (cond (Nat.ble pc 5) (cond (Nat.beq pc 5) (some (.sipush 200, 3)) none) (cond (Nat.beq pc 8) (some (.anewarray 9, 3)) none)) (cond (Nat.ble pc 11) (cond (Nat.beq pc 11) (some (.putfield 11, 3)) none) (cond (Nat.beq pc 14) (some (.return_, 1)) none))))
set_option maxRecDepth 100000 in
theorem zd2_0 : (List.range' 0 15).all (fun pc => match zI2 pc with | some q => decide (decode (zCode 2) pc = .ok q) | none => true) = true := by decide +kernel
theorem zJ2 {pc : Nat} {q : Jvm.ClassFile.Instr × Nat} (h : zI2 pc = some q) : decode (zCode 2) pc = .ok q := by
  have hb := (z_gd (n := 15) (pc := pc) h).1
  exact z_ck zd2_0 (by omega) (by omega) h
def zI3 (pc : Nat) : Option (Jvm.ClassFile.Instr × Nat) := cond (Nat.ble 42 pc) none (cond (Nat.ble pc 19) (cond (Nat.ble pc 8) (cond (Nat.ble pc 1) (cond (Nat.ble pc 0) (cond (Nat.beq pc 0) (some (.aload_n 0, 1)) none) (cond (Nat.beq pc 1) (some (.invokespecial 3, 3)) none)) (cond (Nat.ble pc 4) (cond (Nat.beq pc 4) (some (.aload_n 0, 1)) none) (cond (Nat.ble pc 5) (cond (Nat.beq pc 5) (some (.new 9, 3)) none) (cond (Nat.beq pc 8) (some (.dup, 1)) none)))) (cond (Nat.ble pc 12) (cond (Nat.ble pc 9) (cond (Nat.beq pc 9) (some (.invokespecial 11, 3)) none) (cond (Nat.beq pc 12) (some (.putfield 12, 3)) none)) (cond (Nat.ble pc 15) (cond (Nat.beq pc 15) (some (.aload_n 0, 1)) none) (cond (Nat.ble pc 16) (cond (Nat.beq pc 16) (some (.new 18, 3)) none) (cond (Nat.beq pc 19) (some (.dup, 1)) none))))) (cond (Nat.ble pc 30) (cond (Nat.ble pc 23) (cond (Nat.ble pc 20) (cond (Nat.beq pc 20) (some (.invokespecial 20, 3)) none) (cond (Nat.beq pc 23) (some (.putfield 21, 3)) none)) (cond (Nat.ble pc 26) (cond (Nat.beq pc 26) (some (.aload_n 0, 1)) none) (cond (Nat.ble pc 27) (cond (Nat.beq pc 27) (some (.sipush 500, 3)) none) (cond (Nat.beq pc 30) (some (.anewarray 25, 3)) none)))) (cond (Nat.ble pc 36) (cond (Nat.ble pc 33) (cond (Nat.beq pc 33) (some (.putfield 27, 3)) none) (cond (Nat.beq pc 36) (some (.aload_n 0, 1)) none)) (cond (Nat.ble pc 37) (cond (Nat.beq pc 37) (some (.iconst (-1), 1)) none) (cond (Nat.ble pc 38) (cond (Nat.beq pc 38) (some (.putfield 31, 3)) none) (cond (Nat.beq pc 41) (some (.return_, 1)) none))))))
set_option maxRecDepth 100000 in
theorem zd3_0 : (List.range' 0 42).all (fun pc => match zI3 pc with | some q => decide (decode (zCode 3) pc = .ok q) | none => true) = true := by decide +kernel
theorem zJ3 {pc : Nat} {q : Jvm.ClassFile.Instr × Nat} (h : zI3 pc = some q) : decode (zCode 3) pc = .ok q := by
  have hb := (z_gd (n := 42) (pc := pc) h).1
  exact z_ck zd3_0 (by omega) (by omega) h
def zI4 (pc : Nat) : Option (Jvm.ClassFile.Instr × Nat) := cond (Nat.ble 45 pc) none (cond (Nat.ble pc 20) (cond (Nat.ble pc 7) (cond (Nat.ble pc 1) (cond (Nat.ble pc 0) (cond (Nat.beq pc 0) (some (.aload_n 0, 1)) none) (cond (Nat.beq pc 1) (some (.invokespecial 3, 3)) none)) (cond (Nat.ble pc 4) (cond (Nat.beq pc 4) (some (.aload_n 0, 1)) none) (cond (Nat.ble pc 5) (cond (Nat.beq pc 5) (some (.bipush 16, 2)) none) (cond (Nat.beq pc 7) (some (.newarray .long, 2)) none)))) (cond (Nat.ble pc 13) (cond (Nat.ble pc 9) (cond (Nat.beq pc 9) (some (.putfield 9, 3)) none) (cond (Nat.ble pc 12) (cond (Nat.beq pc 12) (some (.aload_n 0, 1)) none) (cond (Nat.beq pc 13) (some (.bipush 16, 2)) none))) (cond (Nat.ble pc 15) (cond (Nat.beq pc 15) (some (.newarray .long, 2)) none) (cond (Nat.ble pc 17) (cond (Nat.beq pc 17) (some (.putfield 15, 3)) none) (cond (Nat.beq pc 20) (some (.aload_n 0, 1)) none))))) (cond (Nat.ble pc 31) (cond (Nat.ble pc 25) (cond (Nat.ble pc 21) (cond (Nat.beq pc 21) (some (.bipush 16, 2)) none) (cond (Nat.ble pc 23) (cond (Nat.beq pc 23) (some (.newarray .long, 2)) none) (cond (Nat.beq pc 25) (some (.putfield 18, 3)) none))) (cond (Nat.ble pc 28) (cond (Nat.beq pc 28) (some (.aload_n 0, 1)) none) (cond (Nat.ble pc 29) (cond (Nat.beq pc 29) (some (.bipush 16, 2)) none) (cond (Nat.beq pc 31) (some (.newarray .long, 2)) none)))) (cond (Nat.ble pc 37) (cond (Nat.ble pc 33) (cond (Nat.beq pc 33) (some (.putfield 21, 3)) none) (cond (Nat.ble pc 36) (cond (Nat.beq pc 36) (some (.aload_n 0, 1)) none) (cond (Nat.beq pc 37) (some (.bipush 16, 2)) none))) (cond (Nat.ble pc 39) (cond (Nat.beq pc 39) (some (.newarray .boolean, 2)) none) (cond (Nat.ble pc 41) (cond (Nat.beq pc 41) (some (.putfield 24, 3)) none) (cond (Nat.beq pc 44) (some (.return_, 1)) none))))))
set_option maxRecDepth 100000 in
theorem zd4_0 : (List.range' 0 45).all (fun pc => match zI4 pc with | some q => decide (decode (zCode 4) pc = .ok q) | none => true) = true := by decide +kernel
theorem zJ4 {pc : Nat} {q : Jvm.ClassFile.Instr × Nat} (h : zI4 pc = some q) : decode (zCode 4) pc = .ok q := by
  have hb := (z_gd (n := 45) (pc := pc) h).1
  exact z_ck zd4_0 (by omega) (by omega) h
def zI5 (pc : Nat) : Option (Jvm.ClassFile.Instr × Nat) := cond (Nat.ble 41 pc) none (cond (Nat.ble pc 17) (cond (Nat.ble pc 5) (cond (Nat.ble pc 1) (cond (Nat.ble pc 0) (cond (Nat.beq pc 0) (some (.aload_n 0, 1)) none) (cond (Nat.beq pc 1) (some (.invokespecial 3, 3)) none)) (cond (Nat.ble pc 4) (cond (Nat.beq pc 4) (some (.aload_n 0, 1)) none) (cond (Nat.beq pc 5) (some (.sipush 200, 3)) none))) (cond (Nat.ble pc 10) (cond (Nat.ble pc 8) (cond (Nat.beq pc 8) (some (.newarray .int, 2)) none) (cond (Nat.beq pc 10) (some (.putfield 9, 3)) none)) (cond (Nat.ble pc 13) (cond (Nat.beq pc 13) (some (.aload_n 0, 1)) none) (cond (Nat.ble pc 14) (cond (Nat.beq pc 14) (some (.sipush 200, 3)) none) (cond (Nat.beq pc 17) (some (.newarray .int, 2)) none))))) (cond (Nat.ble pc 28) (cond (Nat.ble pc 22) (cond (Nat.ble pc 19) (cond (Nat.beq pc 19) (some (.putfield 15, 3)) none) (cond (Nat.beq pc 22) (some (.aload_n 0, 1)) none)) (cond (Nat.ble pc 23) (cond (Nat.beq pc 23) (some (.sipush 200, 3)) none) (cond (Nat.ble pc 26) (cond (Nat.beq pc 26) (some (.newarray .int, 2)) none) (cond (Nat.beq pc 28) (some (.putfield 18, 3)) none)))) (cond (Nat.ble pc 32) (cond (Nat.ble pc 31) (cond (Nat.beq pc 31) (some (.aload_n 0, 1)) none) (cond (Nat.beq pc 32) (some (.sipush 200, 3)) none)) (cond (Nat.ble pc 35) (cond (Nat.beq pc 35) (some (.newarray .int, 2)) none) (cond (Nat.ble pc 37) (cond (Nat.beq pc 37) (some (.putfield 21, 3)) none) (cond (Nat.beq pc 40) (some (.return_, 1)) none))))))
set_option maxRecDepth 100000 in
theorem zd5_0 : (List.range' 0 41).all (fun pc => match zI5 pc with | some q => decide (decode (zCode 5) pc = .ok q) | none => true) = true := by decide +kernel
theorem zJ5 {pc : Nat} {q : Jvm.ClassFile.Instr × Nat} (h : zI5 pc = some q) : decode (zCode 5) pc = .ok q := by
  have hb := (z_gd (n := 41) (pc := pc) h).1
  exact z_ck zd5_0 (by omega) (by omega) h
def zI6 (pc : Nat) : Option (Jvm.ClassFile.Instr × Nat) := cond (Nat.ble 10 pc) none (cond (Nat.ble pc 4) (cond (Nat.ble pc 0) (cond (Nat.beq pc 0) (some (.aload_n 0, 1)) none) (cond (Nat.ble pc 1) (cond (Nat.beq pc 1) (some (.getfield 10, 3)) none) (cond (Nat.beq pc 4) (some (.iload_n 1, 1)) none))) (cond (Nat.ble pc 5) (cond (Nat.beq pc 5) (some (.lload_n 2, 1)) none) (cond (Nat.ble pc 6) (cond (Nat.beq pc 6) (some (.invokevirtual 23, 3)) none) (cond (Nat.beq pc 9) (some (.ireturn, 1)) none))))
set_option maxRecDepth 100000 in
theorem zd6_0 : (List.range' 0 10).all (fun pc => match zI6 pc with | some q => decide (decode (zCode 6) pc = .ok q) | none => true) = true := by decide +kernel
theorem zJ6 {pc : Nat} {q : Jvm.ClassFile.Instr × Nat} (h : zI6 pc = some q) : decode (zCode 6) pc = .ok q := by
  have hb := (z_gd (n := 10) (pc := pc) h).1
  exact z_ck zd6_0 (by omega) (by omega) h
def zI7 (pc : Nat) : Option (Jvm.ClassFile.Instr × Nat) := cond (Nat.ble 80 pc) none (cond (Nat.ble pc 37) (cond (Nat.ble pc 15) (cond (Nat.ble pc 6) (cond (Nat.ble pc 1) (cond (Nat.ble pc 0) (cond (Nat.beq pc 0) (some (.iload_n 1, 1)) none) (cond (Nat.beq pc 1) (some (.ifCond .lt 8, 3)) none)) (cond (Nat.ble pc 4) (cond (Nat.beq pc 4) (some (.iload_n 1, 1)) none) (cond (Nat.ble pc 5) (cond (Nat.beq pc 5) (some (.iconst 4, 1)) none) (cond (Nat.beq pc 6) (some (.if_icmp .lt 5, 3)) none)))) (cond (Nat.ble pc 10) (cond (Nat.ble pc 9) (cond (Nat.beq pc 9) (some (.iconst (-1), 1)) none) (cond (Nat.beq pc 10) (some (.ireturn, 1)) none)) (cond (Nat.ble pc 11) (cond (Nat.beq pc 11) (some (.new 9, 3)) none) (cond (Nat.ble pc 14) (cond (Nat.beq pc 14) (some (.dup, 1)) none) (cond (Nat.beq pc 15) (some (.bipush 30, 2)) none))))) (cond (Nat.ble pc 24) (cond (Nat.ble pc 18) (cond (Nat.ble pc 17) (cond (Nat.beq pc 17) (some (.iload_n 1, 1)) none) (cond (Nat.beq pc 18) (some (.iadd, 1)) none)) (cond (Nat.ble pc 19) (cond (Nat.beq pc 19) (some (.invokespecial 21, 3)) none) (cond (Nat.ble pc 22) (cond (Nat.beq pc 22) (some (.astore 4, 2)) none) (cond (Nat.beq pc 24) (some (.aload 4, 2)) none)))) (cond (Nat.ble pc 30) (cond (Nat.ble pc 26) (cond (Nat.beq pc 26) (some (.lload_n 2, 1)) none) (cond (Nat.ble pc 27) (cond (Nat.beq pc 27) (some (.putfield 24, 3)) none) (cond (Nat.beq pc 30) (some (.aload 4, 2)) none))) (cond (Nat.ble pc 32) (cond (Nat.beq pc 32) (some (.getfield 28, 3)) none) (cond (Nat.ble pc 35) (cond (Nat.beq pc 35) (some (.bipush 31, 2)) none) (cond (Nat.beq pc 37) (some (.if_icmp .eq 13, 3)) none)))))) (cond (Nat.ble pc 60) (cond (Nat.ble pc 50) (cond (Nat.ble pc 42) (cond (Nat.ble pc 40) (cond (Nat.beq pc 40) (some (.aload 4, 2)) none) (cond (Nat.beq pc 42) (some (.getfield 28, 3)) none)) (cond (Nat.ble pc 45) (cond (Nat.beq pc 45) (some (.bipush 32, 2)) none) (cond (Nat.ble pc 47) (cond (Nat.beq pc 47) (some (.if_icmp .ne 26, 3)) none) (cond (Nat.beq pc 50) (some (.lload_n 2, 1)) none)))) (cond (Nat.ble pc 53) (cond (Nat.ble pc 51) (cond (Nat.beq pc 51) (some (.lconst 0, 1)) none) (cond (Nat.ble pc 52) (cond (Nat.beq pc 52) (some (.lcmp, 1)) none) (cond (Nat.beq pc 53) (some (.ifCond .lt 11, 3)) none))) (cond (Nat.ble pc 56) (cond (Nat.beq pc 56) (some (.lload_n 2, 1)) none) (cond (Nat.ble pc 57) (cond (Nat.beq pc 57) (some (.ldc2_w 31, 3)) none) (cond (Nat.beq pc 60) (some (.lcmp, 1)) none))))) (cond (Nat.ble pc 68) (cond (Nat.ble pc 64) (cond (Nat.ble pc 61) (cond (Nat.beq pc 61) (some (.ifCond .lt 5, 3)) none) (cond (Nat.beq pc 64) (some (.iconst (-1), 1)) none)) (cond (Nat.ble pc 65) (cond (Nat.beq pc 65) (some (.ireturn, 1)) none) (cond (Nat.ble pc 66) (cond (Nat.beq pc 66) (some (.aload 4, 2)) none) (cond (Nat.beq pc 68) (some (.lload_n 2, 1)) none)))) (cond (Nat.ble pc 73) (cond (Nat.ble pc 69) (cond (Nat.beq pc 69) (some (.l2i, 1)) none) (cond (Nat.ble pc 70) (cond (Nat.beq pc 70) (some (.putfield 33, 3)) none) (cond (Nat.beq pc 73) (some (.aload_n 0, 1)) none))) (cond (Nat.ble pc 74) (cond (Nat.beq pc 74) (some (.aload 4, 2)) none) (cond (Nat.ble pc 76) (cond (Nat.beq pc 76) (some (.invokevirtual 36, 3)) none) (cond (Nat.beq pc 79) (some (.ireturn, 1)) none)))))))
set_option maxRecDepth 100000 in
theorem zd7_0 : (List.range' 0 74).all (fun pc => match zI7 pc with | some q => decide (decode (zCode 7) pc = .ok q) | none => true) = true := by decide +kernel
set_option maxRecDepth 100000 in
theorem zd7_1 : (List.range' 74 6).all (fun pc => match zI7 pc with | some q => decide (decode (zCode 7) pc = .ok q) | none => true) = true := by decide +kernel
theorem zJ7 {pc : Nat} {q : Jvm.ClassFile.Instr × Nat} (h : zI7 pc = some q) : decode (zCode 7) pc = .ok q := by
  have hb := (z_gd (n := 80) (pc := pc) h).1
  by_cases c0 : pc < 74
  · exact z_ck zd7_0 (by omega) (by omega) h
  exact z_ck zd7_1 (by omega) (by omega) h
def zI8 (pc : Nat) : Option (Jvm.ClassFile.Instr × Nat) := cond (Nat.ble 53 pc) none (cond (Nat.ble pc 21) (cond (Nat.ble pc 10) (cond (Nat.ble pc 4) (cond (Nat.ble pc 0) (cond (Nat.beq pc 0) (some (.aload_n 0, 1)) none) (cond (Nat.ble pc 1) (cond (Nat.beq pc 1) (some (.invokespecial 3, 3)) none) (cond (Nat.beq pc 4) (some (.aload_n 0, 1)) none))) (cond (Nat.ble pc 6) (cond (Nat.ble pc 5) (cond (Nat.beq pc 5) (some (.iconst 1, 1)) none) (cond (Nat.beq pc 6) (some (.putfield 9, 3)) none)) (cond (Nat.ble pc 9) (cond (Nat.beq pc 9) (some (.aload_n 0, 1)) none) (cond (Nat.beq pc 10) (some (.lconst 1, 1)) none)))) (cond (Nat.ble pc 15) (cond (Nat.ble pc 11) (cond (Nat.beq pc 11) (some (.putfield 15, 3)) none) (cond (Nat.ble pc 14) (cond (Nat.beq pc 14) (some (.aload_n 0, 1)) none) (cond (Nat.beq pc 15) (some (.iload_n 1, 1)) none))) (cond (Nat.ble pc 19) (cond (Nat.ble pc 16) (cond (Nat.beq pc 16) (some (.putfield 19, 3)) none) (cond (Nat.beq pc 19) (some (.aload_n 0, 1)) none)) (cond (Nat.ble pc 20) (cond (Nat.beq pc 20) (some (.iload_n 1, 1)) none) (cond (Nat.beq pc 21) (some (.bipush 10, 2)) none))))) (cond (Nat.ble pc 35) (cond (Nat.ble pc 27) (cond (Nat.ble pc 23) (cond (Nat.beq pc 23) (some (.if_icmp .eq 21, 3)) none) (cond (Nat.ble pc 26) (cond (Nat.beq pc 26) (some (.iload_n 1, 1)) none) (cond (Nat.beq pc 27) (some (.bipush 11, 2)) none))) (cond (Nat.ble pc 32) (cond (Nat.ble pc 29) (cond (Nat.beq pc 29) (some (.if_icmp .eq 15, 3)) none) (cond (Nat.beq pc 32) (some (.iload_n 1, 1)) none)) (cond (Nat.ble pc 33) (cond (Nat.beq pc 33) (some (.bipush 12, 2)) none) (cond (Nat.beq pc 35) (some (.if_icmp .eq 9, 3)) none)))) (cond (Nat.ble pc 44) (cond (Nat.ble pc 39) (cond (Nat.ble pc 38) (cond (Nat.beq pc 38) (some (.iload_n 1, 1)) none) (cond (Nat.beq pc 39) (some (.bipush 16, 2)) none)) (cond (Nat.ble pc 41) (cond (Nat.beq pc 41) (some (.if_icmp .ne 7, 3)) none) (cond (Nat.beq pc 44) (some (.iconst 1, 1)) none))) (cond (Nat.ble pc 48) (cond (Nat.ble pc 45) (cond (Nat.beq pc 45) (some (.goto 4, 3)) none) (cond (Nat.beq pc 48) (some (.iconst 0, 1)) none)) (cond (Nat.ble pc 49) (cond (Nat.beq pc 49) (some (.putfield 22, 3)) none) (cond (Nat.beq pc 52) (some (.return_, 1)) none))))))
set_option maxRecDepth 100000 in
theorem zd8_0 : (List.range' 0 53).all (fun pc => match zI8 pc with | some q => decide (decode (zCode 8) pc = .ok q) | none => true) = true := by decide +kernel
theorem zJ8 {pc : Nat} {q : Jvm.ClassFile.Instr × Nat} (h : zI8 pc = some q) : decode (zCode 8) pc = .ok q := by
  have hb := (z_gd (n := 53) (pc := pc) h).1
  exact z_ck zd8_0 (by omega) (by omega) h
def zI9 (pc : Nat) : Option (Jvm.ClassFile.Instr × Nat) := cond (Nat.ble 48 pc) none (cond (Nat.ble pc 23) (cond (Nat.ble pc 9) (cond (Nat.ble pc 4) (cond (Nat.ble pc 0) (cond (Nat.beq pc 0) (some (.aload_n 0, 1)) none) (cond (Nat.ble pc 1) (cond (Nat.beq pc 1) (some (.getfield 17, 3)) none) (cond (Nat.beq pc 4) (some (.aload_n 0, 1)) none))) (cond (Nat.ble pc 5) (cond (Nat.beq pc 5) (some (.getfield 11, 3)) none) (cond (Nat.ble pc 8) (cond (Nat.beq pc 8) (some (.arraylength, 1)) none) (cond (Nat.beq pc 9) (some (.if_icmp .lt 6, 3)) none)))) (cond (Nat.ble pc 15) (cond (Nat.ble pc 12) (cond (Nat.beq pc 12) (some (.bipush (-2), 2)) none) (cond (Nat.ble pc 14) (cond (Nat.beq pc 14) (some (.ireturn, 1)) none) (cond (Nat.beq pc 15) (some (.aload_n 1, 1)) none))) (cond (Nat.ble pc 17) (cond (Nat.ble pc 16) (cond (Nat.beq pc 16) (some (.aload_n 0, 1)) none) (cond (Nat.beq pc 17) (some (.getfield 17, 3)) none)) (cond (Nat.ble pc 20) (cond (Nat.beq pc 20) (some (.putfield 56, 3)) none) (cond (Nat.beq pc 23) (some (.aload_n 0, 1)) none))))) (cond (Nat.ble pc 34) (cond (Nat.ble pc 28) (cond (Nat.ble pc 24) (cond (Nat.beq pc 24) (some (.getfield 11, 3)) none) (cond (Nat.ble pc 27) (cond (Nat.beq pc 27) (some (.aload_n 0, 1)) none) (cond (Nat.beq pc 28) (some (.getfield 17, 3)) none))) (cond (Nat.ble pc 32) (cond (Nat.ble pc 31) (cond (Nat.beq pc 31) (some (.aload_n 1, 1)) none) (cond (Nat.beq pc 32) (some (.aastore, 1)) none)) (cond (Nat.ble pc 33) (cond (Nat.beq pc 33) (some (.aload_n 0, 1)) none) (cond (Nat.beq pc 34) (some (.dup, 1)) none)))) (cond (Nat.ble pc 39) (cond (Nat.ble pc 35) (cond (Nat.beq pc 35) (some (.getfield 17, 3)) none) (cond (Nat.ble pc 38) (cond (Nat.beq pc 38) (some (.iconst 1, 1)) none) (cond (Nat.beq pc 39) (some (.iadd, 1)) none))) (cond (Nat.ble pc 43) (cond (Nat.ble pc 40) (cond (Nat.beq pc 40) (some (.putfield 17, 3)) none) (cond (Nat.beq pc 43) (some (.aload_n 1, 1)) none)) (cond (Nat.ble pc 44) (cond (Nat.beq pc 44) (some (.getfield 56, 3)) none) (cond (Nat.beq pc 47) (some (.ireturn, 1)) none))))))
set_option maxRecDepth 100000 in
theorem zd9_0 : (List.range' 0 48).all (fun pc => match zI9 pc with | some q => decide (decode (zCode 9) pc = .ok q) | none => true) = true := by decide +kernel
theorem zJ9 {pc : Nat} {q : Jvm.ClassFile.Instr × Nat} (h : zI9 pc = some q) : decode (zCode 9) pc = .ok q := by
  have hb := (z_gd (n := 48) (pc := pc) h).1
  exact z_ck zd9_0 (by omega) (by omega) h
def zI10 (pc : Nat) : Option (Jvm.ClassFile.Instr × Nat) := cond (Nat.ble 13 pc) none (cond (Nat.ble pc 5) (cond (Nat.ble pc 1) (cond (Nat.ble pc 0) (cond (Nat.beq pc 0) (some (.aload_n 0, 1)) none) (cond (Nat.beq pc 1) (some (.getfield 10, 3)) none)) (cond (Nat.ble pc 4) (cond (Nat.beq pc 4) (some (.iload_n 1, 1)) none) (cond (Nat.beq pc 5) (some (.iload_n 2, 1)) none))) (cond (Nat.ble pc 7) (cond (Nat.ble pc 6) (cond (Nat.beq pc 6) (some (.iload_n 3, 1)) none) (cond (Nat.beq pc 7) (some (.iload 4, 2)) none)) (cond (Nat.ble pc 9) (cond (Nat.beq pc 9) (some (.invokevirtual 27, 3)) none) (cond (Nat.beq pc 12) (some (.ireturn, 1)) none))))
set_option maxRecDepth 100000 in
theorem zd10_0 : (List.range' 0 13).all (fun pc => match zI10 pc with | some q => decide (decode (zCode 10) pc = .ok q) | none => true) = true := by decide +kernel
theorem zJ10 {pc : Nat} {q : Jvm.ClassFile.Instr × Nat} (h : zI10 pc = some q) : decode (zCode 10) pc = .ok q := by
  have hb := (z_gd (n := 13) (pc := pc) h).1
  exact z_ck zd10_0 (by omega) (by omega) h
def zI11 (pc : Nat) : Option (Jvm.ClassFile.Instr × Nat) := cond (Nat.ble 64 pc) none (cond (Nat.ble pc 30) (cond (Nat.ble pc 13) (cond (Nat.ble pc 5) (cond (Nat.ble pc 3) (cond (Nat.ble pc 0) (cond (Nat.beq pc 0) (some (.new 9, 3)) none) (cond (Nat.beq pc 3) (some (.dup, 1)) none)) (cond (Nat.ble pc 4) (cond (Nat.beq pc 4) (some (.iload_n 1, 1)) none) (cond (Nat.beq pc 5) (some (.invokespecial 21, 3)) none))) (cond (Nat.ble pc 10) (cond (Nat.ble pc 8) (cond (Nat.beq pc 8) (some (.astore 5, 2)) none) (cond (Nat.beq pc 10) (some (.aload_n 0, 1)) none)) (cond (Nat.ble pc 11) (cond (Nat.beq pc 11) (some (.aload 5, 2)) none) (cond (Nat.beq pc 13) (some (.iload_n 2, 1)) none)))) (cond (Nat.ble pc 20) (cond (Nat.ble pc 15) (cond (Nat.ble pc 14) (cond (Nat.beq pc 14) (some (.iload_n 3, 1)) none) (cond (Nat.beq pc 15) (some (.iload 4, 2)) none)) (cond (Nat.ble pc 17) (cond (Nat.beq pc 17) (some (.invokevirtual 40, 3)) none) (cond (Nat.beq pc 20) (some (.ifCond .eq 13, 3)) none))) (cond (Nat.ble pc 25) (cond (Nat.ble pc 23) (cond (Nat.beq pc 23) (some (.aload 5, 2)) none) (cond (Nat.beq pc 25) (some (.getfield 44, 3)) none)) (cond (Nat.ble pc 28) (cond (Nat.beq pc 28) (some (.bipush 30, 2)) none) (cond (Nat.beq pc 30) (some (.if_icmp .le 5, 3)) none))))) (cond (Nat.ble pc 48) (cond (Nat.ble pc 37) (cond (Nat.ble pc 34) (cond (Nat.ble pc 33) (cond (Nat.beq pc 33) (some (.iconst (-1), 1)) none) (cond (Nat.beq pc 34) (some (.ireturn, 1)) none)) (cond (Nat.ble pc 35) (cond (Nat.beq pc 35) (some (.aload 5, 2)) none) (cond (Nat.beq pc 37) (some (.invokevirtual 47, 3)) none))) (cond (Nat.ble pc 43) (cond (Nat.ble pc 40) (cond (Nat.beq pc 40) (some (.ifCond .ne 17, 3)) none) (cond (Nat.beq pc 43) (some (.aload 5, 2)) none)) (cond (Nat.ble pc 45) (cond (Nat.beq pc 45) (some (.getfield 51, 3)) none) (cond (Nat.beq pc 48) (some (.ldc2_w 54, 3)) none)))) (cond (Nat.ble pc 56) (cond (Nat.ble pc 52) (cond (Nat.ble pc 51) (cond (Nat.beq pc 51) (some (.lcmp, 1)) none) (cond (Nat.beq pc 52) (some (.ifCond .le 5, 3)) none)) (cond (Nat.ble pc 55) (cond (Nat.beq pc 55) (some (.iconst (-1), 1)) none) (cond (Nat.beq pc 56) (some (.ireturn, 1)) none))) (cond (Nat.ble pc 58) (cond (Nat.ble pc 57) (cond (Nat.beq pc 57) (some (.aload_n 0, 1)) none) (cond (Nat.beq pc 58) (some (.aload 5, 2)) none)) (cond (Nat.ble pc 60) (cond (Nat.beq pc 60) (some (.invokevirtual 36, 3)) none) (cond (Nat.beq pc 63) (some (.ireturn, 1)) none))))))
set_option maxRecDepth 100000 in
theorem zd11_0 : (List.range' 0 64).all (fun pc => match zI11 pc with | some q => decide (decode (zCode 11) pc = .ok q) | none => true) = true := by decide +kernel
theorem zJ11 {pc : Nat} {q : Jvm.ClassFile.Instr × Nat} (h : zI11 pc = some q) : decode (zCode 11) pc = .ok q := by
  have hb := (z_gd (n := 64) (pc := pc) h).1
  exact z_ck zd11_0 (by omega) (by omega) h
def zI12 (pc : Nat) : Option (Jvm.ClassFile.Instr × Nat) := cond (Nat.ble 403 pc) none (cond (Nat.ble pc 252) (cond (Nat.ble pc 176) (cond (Nat.ble pc 138) (cond (Nat.ble pc 120) (cond (Nat.ble pc 109) (cond (Nat.ble pc 1) (cond (Nat.ble pc 0) (cond (Nat.beq pc 0) (some (.aload_n 1, 1)) none) (cond (Nat.beq pc 1) (some (.getfield 28, 3)) none)) (cond (Nat.ble pc 4) (cond (Nat.beq pc 4) (some (.tableswitch 397 0 21 #[104, 104, 104, 104, 104, 104, 397, 397, 397, 397, 134, 164, 164, 190, 190, 134, 200, 249, 279, 322, 361, 367], 104)) none) (cond (Nat.ble pc 108) (cond (Nat.beq pc 108) (some (.aload_n 1, 1)) none) (cond (Nat.beq pc 109) (some (.aload_n 0, 1)) none)))) (cond (Nat.ble pc 111) (cond (Nat.ble pc 110) (cond (Nat.beq pc 110) (some (.iload_n 2, 1)) none) (cond (Nat.beq pc 111) (some (.invokevirtual 59, 3)) none)) (cond (Nat.ble pc 114) (cond (Nat.beq pc 114) (some (.invokevirtual 63, 3)) none) (cond (Nat.ble pc 117) (cond (Nat.beq pc 117) (some (.ifCond .eq 19, 3)) none) (cond (Nat.beq pc 120) (some (.aload_n 1, 1)) none))))) (cond (Nat.ble pc 129) (cond (Nat.ble pc 122) (cond (Nat.ble pc 121) (cond (Nat.beq pc 121) (some (.aload_n 0, 1)) none) (cond (Nat.beq pc 122) (some (.iload_n 3, 1)) none)) (cond (Nat.ble pc 123) (cond (Nat.beq pc 123) (some (.invokevirtual 59, 3)) none) (cond (Nat.ble pc 126) (cond (Nat.beq pc 126) (some (.invokevirtual 63, 3)) none) (cond (Nat.beq pc 129) (some (.ifCond .eq 7, 3)) none)))) (cond (Nat.ble pc 133) (cond (Nat.ble pc 132) (cond (Nat.beq pc 132) (some (.iconst 1, 1)) none) (cond (Nat.beq pc 133) (some (.goto 4, 3)) none)) (cond (Nat.ble pc 136) (cond (Nat.beq pc 136) (some (.iconst 0, 1)) none) (cond (Nat.ble pc 137) (cond (Nat.beq pc 137) (some (.ireturn, 1)) none) (cond (Nat.beq pc 138) (some (.aload_n 1, 1)) none)))))) (cond (Nat.ble pc 156) (cond (Nat.ble pc 147) (cond (Nat.ble pc 140) (cond (Nat.ble pc 139) (cond (Nat.beq pc 139) (some (.aload_n 0, 1)) none) (cond (Nat.beq pc 140) (some (.iload_n 2, 1)) none)) (cond (Nat.ble pc 141) (cond (Nat.beq pc 141) (some (.invokevirtual 59, 3)) none) (cond (Nat.ble pc 144) (cond (Nat.beq pc 144) (some (.invokevirtual 67, 3)) none) (cond (Nat.beq pc 147) (some (.ifCond .eq 19, 3)) none)))) (cond (Nat.ble pc 151) (cond (Nat.ble pc 150) (cond (Nat.beq pc 150) (some (.aload_n 1, 1)) none) (cond (Nat.beq pc 151) (some (.aload_n 0, 1)) none)) (cond (Nat.ble pc 152) (cond (Nat.beq pc 152) (some (.iload_n 3, 1)) none) (cond (Nat.ble pc 153) (cond (Nat.beq pc 153) (some (.invokevirtual 59, 3)) none) (cond (Nat.beq pc 156) (some (.invokevirtual 67, 3)) none))))) (cond (Nat.ble pc 167) (cond (Nat.ble pc 162) (cond (Nat.ble pc 159) (cond (Nat.beq pc 159) (some (.ifCond .eq 7, 3)) none) (cond (Nat.beq pc 162) (some (.iconst 1, 1)) none)) (cond (Nat.ble pc 163) (cond (Nat.beq pc 163) (some (.goto 4, 3)) none) (cond (Nat.ble pc 166) (cond (Nat.beq pc 166) (some (.iconst 0, 1)) none) (cond (Nat.beq pc 167) (some (.ireturn, 1)) none)))) (cond (Nat.ble pc 169) (cond (Nat.ble pc 168) (cond (Nat.beq pc 168) (some (.aload_n 1, 1)) none) (cond (Nat.beq pc 169) (some (.iload_n 2, 1)) none)) (cond (Nat.ble pc 170) (cond (Nat.beq pc 170) (some (.invokevirtual 70, 3)) none) (cond (Nat.ble pc 173) (cond (Nat.beq pc 173) (some (.ifCond .eq 19, 3)) none) (cond (Nat.beq pc 176) (some (.aload_n 1, 1)) none))))))) (cond (Nat.ble pc 210) (cond (Nat.ble pc 194) (cond (Nat.ble pc 185) (cond (Nat.ble pc 178) (cond (Nat.ble pc 177) (cond (Nat.beq pc 177) (some (.aload_n 0, 1)) none) (cond (Nat.beq pc 178) (some (.iload_n 3, 1)) none)) (cond (Nat.ble pc 179) (cond (Nat.beq pc 179) (some (.invokevirtual 59, 3)) none) (cond (Nat.ble pc 182) (cond (Nat.beq pc 182) (some (.invokevirtual 63, 3)) none) (cond (Nat.beq pc 185) (some (.ifCond .eq 7, 3)) none)))) (cond (Nat.ble pc 189) (cond (Nat.ble pc 188) (cond (Nat.beq pc 188) (some (.iconst 1, 1)) none) (cond (Nat.beq pc 189) (some (.goto 4, 3)) none)) (cond (Nat.ble pc 192) (cond (Nat.beq pc 192) (some (.iconst 0, 1)) none) (cond (Nat.ble pc 193) (cond (Nat.beq pc 193) (some (.ireturn, 1)) none) (cond (Nat.beq pc 194) (some (.aload_n 1, 1)) none))))) (cond (Nat.ble pc 203) (cond (Nat.ble pc 196) (cond (Nat.ble pc 195) (cond (Nat.beq pc 195) (some (.aload_n 0, 1)) none) (cond (Nat.beq pc 196) (some (.iload_n 2, 1)) none)) (cond (Nat.ble pc 197) (cond (Nat.beq pc 197) (some (.invokevirtual 59, 3)) none) (cond (Nat.ble pc 200) (cond (Nat.beq pc 200) (some (.invokevirtual 63, 3)) none) (cond (Nat.beq pc 203) (some (.ireturn, 1)) none)))) (cond (Nat.ble pc 205) (cond (Nat.ble pc 204) (cond (Nat.beq pc 204) (some (.aload_n 1, 1)) none) (cond (Nat.beq pc 205) (some (.aload_n 0, 1)) none)) (cond (Nat.ble pc 206) (cond (Nat.beq pc 206) (some (.iload_n 2, 1)) none) (cond (Nat.ble pc 207) (cond (Nat.beq pc 207) (some (.invokevirtual 59, 3)) none) (cond (Nat.beq pc 210) (some (.invokevirtual 63, 3)) none)))))) (cond (Nat.ble pc 231) (cond (Nat.ble pc 219) (cond (Nat.ble pc 216) (cond (Nat.ble pc 213) (cond (Nat.beq pc 213) (some (.ifCond .eq 38, 3)) none) (cond (Nat.beq pc 216) (some (.aload_n 1, 1)) none)) (cond (Nat.ble pc 217) (cond (Nat.beq pc 217) (some (.aload_n 0, 1)) none) (cond (Nat.ble pc 218) (cond (Nat.beq pc 218) (some (.iload_n 3, 1)) none) (cond (Nat.beq pc 219) (some (.invokevirtual 59, 3)) none)))) (cond (Nat.ble pc 225) (cond (Nat.ble pc 222) (cond (Nat.beq pc 222) (some (.invokevirtual 67, 3)) none) (cond (Nat.beq pc 225) (some (.ifCond .eq 26, 3)) none)) (cond (Nat.ble pc 228) (cond (Nat.beq pc 228) (some (.iload 4, 2)) none) (cond (Nat.ble pc 230) (cond (Nat.beq pc 230) (some (.iconst (-1), 1)) none) (cond (Nat.beq pc 231) (some (.if_icmp .eq 16, 3)) none))))) (cond (Nat.ble pc 241) (cond (Nat.ble pc 235) (cond (Nat.ble pc 234) (cond (Nat.beq pc 234) (some (.aload_n 1, 1)) none) (cond (Nat.beq pc 235) (some (.aload_n 0, 1)) none)) (cond (Nat.ble pc 236) (cond (Nat.beq pc 236) (some (.iload 4, 2)) none) (cond (Nat.ble pc 238) (cond (Nat.beq pc 238) (some (.invokevirtual 59, 3)) none) (cond (Nat.beq pc 241) (some (.invokevirtual 67, 3)) none)))) (cond (Nat.ble pc 247) (cond (Nat.ble pc 244) (cond (Nat.beq pc 244) (some (.ifCond .eq 7, 3)) none) (cond (Nat.beq pc 247) (some (.iconst 1, 1)) none)) (cond (Nat.ble pc 248) (cond (Nat.beq pc 248) (some (.goto 4, 3)) none) (cond (Nat.ble pc 251) (cond (Nat.beq pc 251) (some (.iconst 0, 1)) none) (cond (Nat.beq pc 252) (some (.ireturn, 1)) none)))))))) (cond (Nat.ble pc 327) (cond (Nat.ble pc 286) (cond (Nat.ble pc 268) (cond (Nat.ble pc 259) (cond (Nat.ble pc 254) (cond (Nat.ble pc 253) (cond (Nat.beq pc 253) (some (.aload_n 1, 1)) none) (cond (Nat.beq pc 254) (some (.aload_n 0, 1)) none)) (cond (Nat.ble pc 255) (cond (Nat.beq pc 255) (some (.iload_n 2, 1)) none) (cond (Nat.ble pc 256) (cond (Nat.beq pc 256) (some (.invokevirtual 59, 3)) none) (cond (Nat.beq pc 259) (some (.invokevirtual 63, 3)) none)))) (cond (Nat.ble pc 265) (cond (Nat.ble pc 262) (cond (Nat.beq pc 262) (some (.ifCond .eq 19, 3)) none) (cond (Nat.beq pc 265) (some (.aload_n 1, 1)) none)) (cond (Nat.ble pc 266) (cond (Nat.beq pc 266) (some (.aload_n 0, 1)) none) (cond (Nat.ble pc 267) (cond (Nat.beq pc 267) (some (.iload_n 3, 1)) none) (cond (Nat.beq pc 268) (some (.invokevirtual 59, 3)) none))))) (cond (Nat.ble pc 281) (cond (Nat.ble pc 274) (cond (Nat.ble pc 271) (cond (Nat.beq pc 271) (some (.invokevirtual 67, 3)) none) (cond (Nat.beq pc 274) (some (.ifCond .eq 7, 3)) none)) (cond (Nat.ble pc 277) (cond (Nat.beq pc 277) (some (.iconst 1, 1)) none) (cond (Nat.ble pc 278) (cond (Nat.beq pc 278) (some (.goto 4, 3)) none) (cond (Nat.beq pc 281) (some (.iconst 0, 1)) none)))) (cond (Nat.ble pc 283) (cond (Nat.ble pc 282) (cond (Nat.beq pc 282) (some (.ireturn, 1)) none) (cond (Nat.beq pc 283) (some (.aload_n 1, 1)) none)) (cond (Nat.ble pc 284) (cond (Nat.beq pc 284) (some (.aload_n 0, 1)) none) (cond (Nat.ble pc 285) (cond (Nat.beq pc 285) (some (.iload_n 2, 1)) none) (cond (Nat.beq pc 286) (some (.invokevirtual 59, 3)) none)))))) (cond (Nat.ble pc 308) (cond (Nat.ble pc 297) (cond (Nat.ble pc 292) (cond (Nat.ble pc 289) (cond (Nat.beq pc 289) (some (.invokevirtual 63, 3)) none) (cond (Nat.beq pc 292) (some (.ifCond .eq 32, 3)) none)) (cond (Nat.ble pc 295) (cond (Nat.beq pc 295) (some (.aload_n 1, 1)) none) (cond (Nat.ble pc 296) (cond (Nat.beq pc 296) (some (.aload_n 0, 1)) none) (cond (Nat.beq pc 297) (some (.iload_n 3, 1)) none)))) (cond (Nat.ble pc 301) (cond (Nat.ble pc 298) (cond (Nat.beq pc 298) (some (.invokevirtual 59, 3)) none) (cond (Nat.beq pc 301) (some (.invokevirtual 67, 3)) none)) (cond (Nat.ble pc 304) (cond (Nat.beq pc 304) (some (.ifCond .eq 20, 3)) none) (cond (Nat.ble pc 307) (cond (Nat.beq pc 307) (some (.aload_n 1, 1)) none) (cond (Nat.beq pc 308) (some (.aload_n 0, 1)) none))))) (cond (Nat.ble pc 320) (cond (Nat.ble pc 311) (cond (Nat.ble pc 309) (cond (Nat.beq pc 309) (some (.iload 4, 2)) none) (cond (Nat.beq pc 311) (some (.invokevirtual 59, 3)) none)) (cond (Nat.ble pc 314) (cond (Nat.beq pc 314) (some (.invokevirtual 67, 3)) none) (cond (Nat.ble pc 317) (cond (Nat.beq pc 317) (some (.ifCond .eq 7, 3)) none) (cond (Nat.beq pc 320) (some (.iconst 1, 1)) none)))) (cond (Nat.ble pc 324) (cond (Nat.ble pc 321) (cond (Nat.beq pc 321) (some (.goto 4, 3)) none) (cond (Nat.beq pc 324) (some (.iconst 0, 1)) none)) (cond (Nat.ble pc 325) (cond (Nat.beq pc 325) (some (.ireturn, 1)) none) (cond (Nat.ble pc 326) (cond (Nat.beq pc 326) (some (.aload_n 1, 1)) none) (cond (Nat.beq pc 327) (some (.iload_n 2, 1)) none))))))) (cond (Nat.ble pc 366) (cond (Nat.ble pc 347) (cond (Nat.ble pc 336) (cond (Nat.ble pc 331) (cond (Nat.ble pc 328) (cond (Nat.beq pc 328) (some (.invokevirtual 70, 3)) none) (cond (Nat.beq pc 331) (some (.ifCond .eq 32, 3)) none)) (cond (Nat.ble pc 334) (cond (Nat.beq pc 334) (some (.aload_n 1, 1)) none) (cond (Nat.ble pc 335) (cond (Nat.beq pc 335) (some (.aload_n 0, 1)) none) (cond (Nat.beq pc 336) (some (.iload_n 3, 1)) none)))) (cond (Nat.ble pc 340) (cond (Nat.ble pc 337) (cond (Nat.beq pc 337) (some (.invokevirtual 59, 3)) none) (cond (Nat.beq pc 340) (some (.invokevirtual 63, 3)) none)) (cond (Nat.ble pc 343) (cond (Nat.beq pc 343) (some (.ifCond .eq 20, 3)) none) (cond (Nat.ble pc 346) (cond (Nat.beq pc 346) (some (.aload_n 1, 1)) none) (cond (Nat.beq pc 347) (some (.aload_n 0, 1)) none))))) (cond (Nat.ble pc 359) (cond (Nat.ble pc 350) (cond (Nat.ble pc 348) (cond (Nat.beq pc 348) (some (.iload 4, 2)) none) (cond (Nat.beq pc 350) (some (.invokevirtual 59, 3)) none)) (cond (Nat.ble pc 353) (cond (Nat.beq pc 353) (some (.invokevirtual 63, 3)) none) (cond (Nat.ble pc 356) (cond (Nat.beq pc 356) (some (.ifCond .eq 7, 3)) none) (cond (Nat.beq pc 359) (some (.iconst 1, 1)) none)))) (cond (Nat.ble pc 363) (cond (Nat.ble pc 360) (cond (Nat.beq pc 360) (some (.goto 4, 3)) none) (cond (Nat.beq pc 363) (some (.iconst 0, 1)) none)) (cond (Nat.ble pc 364) (cond (Nat.beq pc 364) (some (.ireturn, 1)) none) (cond (Nat.ble pc 365) (cond (Nat.beq pc 365) (some (.aload_n 1, 1)) none) (cond (Nat.beq pc 366) (some (.iload_n 2, 1)) none)))))) (cond (Nat.ble pc 384) (cond (Nat.ble pc 373) (cond (Nat.ble pc 370) (cond (Nat.ble pc 367) (cond (Nat.beq pc 367) (some (.invokevirtual 70, 3)) none) (cond (Nat.beq pc 370) (some (.ireturn, 1)) none)) (cond (Nat.ble pc 371) (cond (Nat.beq pc 371) (some (.aload_n 1, 1)) none) (cond (Nat.ble pc 372) (cond (Nat.beq pc 372) (some (.aload_n 0, 1)) none) (cond (Nat.beq pc 373) (some (.iload_n 2, 1)) none)))) (cond (Nat.ble pc 377) (cond (Nat.ble pc 374) (cond (Nat.beq pc 374) (some (.invokevirtual 59, 3)) none) (cond (Nat.beq pc 377) (some (.invokevirtual 67, 3)) none)) (cond (Nat.ble pc 380) (cond (Nat.beq pc 380) (some (.ifCond .eq 19, 3)) none) (cond (Nat.ble pc 383) (cond (Nat.beq pc 383) (some (.aload_n 1, 1)) none) (cond (Nat.beq pc 384) (some (.aload_n 0, 1)) none))))) (cond (Nat.ble pc 395) (cond (Nat.ble pc 386) (cond (Nat.ble pc 385) (cond (Nat.beq pc 385) (some (.iload_n 3, 1)) none) (cond (Nat.beq pc 386) (some (.invokevirtual 59, 3)) none)) (cond (Nat.ble pc 389) (cond (Nat.beq pc 389) (some (.invokevirtual 74, 3)) none) (cond (Nat.ble pc 392) (cond (Nat.beq pc 392) (some (.ifCond .eq 7, 3)) none) (cond (Nat.beq pc 395) (some (.iconst 1, 1)) none)))) (cond (Nat.ble pc 399) (cond (Nat.ble pc 396) (cond (Nat.beq pc 396) (some (.goto 4, 3)) none) (cond (Nat.beq pc 399) (some (.iconst 0, 1)) none)) (cond (Nat.ble pc 400) (cond (Nat.beq pc 400) (some (.ireturn, 1)) none) (cond (Nat.ble pc 401) (cond (Nat.beq pc 401) (some (.iconst 0, 1)) none) (cond (Nat.beq pc 402) (some (.ireturn, 1)) none)))))))))
set_option maxRecDepth 100000 in
theorem zd12_0 : (List.range' 0 177).all (fun pc => match zI12 pc with | some q => decide (decode (zCode 12) pc = .ok q) | none => true) = true := by decide +kernel
set_option maxRecDepth 100000 in
theorem zd12_1 : (List.range' 177 76).all (fun pc => match zI12 pc with | some q => decide (decode (zCode 12) pc = .ok q) | none => true) = true := by decide +kernel
set_option maxRecDepth 100000 in
theorem zd12_2 : (List.range' 253 75).all (fun pc => match zI12 pc with | some q => decide (decode (zCode 12) pc = .ok q) | none => true) = true := by decide +kernel
set_option maxRecDepth 100000 in
theorem zd12_3 : (List.range' 328 75).all (fun pc => match zI12 pc with | some q => decide (decode (zCode 12) pc = .ok q) | none => true) = true := by decide +kernel
theorem zJ12 {pc : Nat} {q : Jvm.ClassFile.Instr × Nat} (h : zI12 pc = some q) : decode (zCode 12) pc = .ok q := by
  have hb := (z_gd (n := 403) (pc := pc) h).1
  by_cases c0 : pc < 177
  · exact z_ck zd12_0 (by omega) (by omega) h
  by_cases c1 : pc < 253
  · exact z_ck zd12_1 (by omega) (by omega) h
  by_cases c2 : pc < 328
  · exact z_ck zd12_2 (by omega) (by omega) h
  exact z_ck zd12_3 (by omega) (by omega) h
def zI13 (pc : Nat) : Option (Jvm.ClassFile.Instr × Nat) := cond (Nat.ble 32 pc) none (cond (Nat.ble pc 14) (cond (Nat.ble pc 5) (cond (Nat.ble pc 1) (cond (Nat.ble pc 0) (cond (Nat.beq pc 0) (some (.iload_n 1, 1)) none) (cond (Nat.beq pc 1) (some (.ifCond .lt 29, 3)) none)) (cond (Nat.ble pc 4) (cond (Nat.beq pc 4) (some (.iload_n 1, 1)) none) (cond (Nat.beq pc 5) (some (.aload_n 0, 1)) none))) (cond (Nat.ble pc 9) (cond (Nat.ble pc 6) (cond (Nat.beq pc 6) (some (.getfield 17, 3)) none) (cond (Nat.beq pc 9) (some (.if_icmp .ge 21, 3)) none)) (cond (Nat.ble pc 12) (cond (Nat.beq pc 12) (some (.iload_n 1, 1)) none) (cond (Nat.ble pc 13) (cond (Nat.beq pc 13) (some (.aload_n 0, 1)) none) (cond (Nat.beq pc 14) (some (.getfield 11, 3)) none))))) (cond (Nat.ble pc 22) (cond (Nat.ble pc 18) (cond (Nat.ble pc 17) (cond (Nat.beq pc 17) (some (.arraylength, 1)) none) (cond (Nat.beq pc 18) (some (.if_icmp .ge 12, 3)) none)) (cond (Nat.ble pc 21) (cond (Nat.beq pc 21) (some (.aload_n 0, 1)) none) (cond (Nat.beq pc 22) (some (.getfield 11, 3)) none))) (cond (Nat.ble pc 26) (cond (Nat.ble pc 25) (cond (Nat.beq pc 25) (some (.iload_n 1, 1)) none) (cond (Nat.beq pc 26) (some (.aaload, 1)) none)) (cond (Nat.ble pc 27) (cond (Nat.beq pc 27) (some (.goto 4, 3)) none) (cond (Nat.ble pc 30) (cond (Nat.beq pc 30) (some (.aconst_null, 1)) none) (cond (Nat.beq pc 31) (some (.areturn, 1)) none))))))
set_option maxRecDepth 100000 in
theorem zd13_0 : (List.range' 0 32).all (fun pc => match zI13 pc with | some q => decide (decode (zCode 13) pc = .ok q) | none => true) = true := by decide +kernel
theorem zJ13 {pc : Nat} {q : Jvm.ClassFile.Instr × Nat} (h : zI13 pc = some q) : decode (zCode 13) pc = .ok q := by
  have hb := (z_gd (n := 32) (pc := pc) h).1
  exact z_ck zd13_0 (by omega) (by omega) h
def zI14 (pc : Nat) : Option (Jvm.ClassFile.Instr × Nat) := cond (Nat.ble 72 pc) none (cond (Nat.ble pc 34) (cond (Nat.ble pc 14) (cond (Nat.ble pc 5) (cond (Nat.ble pc 1) (cond (Nat.ble pc 0) (cond (Nat.beq pc 0) (some (.aload_n 1, 1)) none) (cond (Nat.beq pc 1) (some (.ifnull 10, 3)) none)) (cond (Nat.ble pc 4) (cond (Nat.beq pc 4) (some (.aload_n 1, 1)) none) (cond (Nat.beq pc 5) (some (.invokevirtual 29, 3)) none))) (cond (Nat.ble pc 11) (cond (Nat.ble pc 8) (cond (Nat.beq pc 8) (some (.ifCond .eq 5, 3)) none) (cond (Nat.beq pc 11) (some (.iconst 0, 1)) none)) (cond (Nat.ble pc 12) (cond (Nat.beq pc 12) (some (.ireturn, 1)) none) (cond (Nat.ble pc 13) (cond (Nat.beq pc 13) (some (.aload_n 0, 1)) none) (cond (Nat.beq pc 14) (some (.getfield 33, 3)) none))))) (cond (Nat.ble pc 25) (cond (Nat.ble pc 20) (cond (Nat.ble pc 17) (cond (Nat.beq pc 17) (some (.ifnonnull 11, 3)) none) (cond (Nat.beq pc 20) (some (.aload_n 0, 1)) none)) (cond (Nat.ble pc 21) (cond (Nat.beq pc 21) (some (.aload_n 1, 1)) none) (cond (Nat.ble pc 22) (cond (Nat.beq pc 22) (some (.putfield 33, 3)) none) (cond (Nat.beq pc 25) (some (.goto 8, 3)) none)))) (cond (Nat.ble pc 29) (cond (Nat.ble pc 28) (cond (Nat.beq pc 28) (some (.aload_n 0, 1)) none) (cond (Nat.beq pc 29) (some (.aload_n 1, 1)) none)) (cond (Nat.ble pc 30) (cond (Nat.beq pc 30) (some (.putfield 37, 3)) none) (cond (Nat.ble pc 33) (cond (Nat.beq pc 33) (some (.aload_n 0, 1)) none) (cond (Nat.beq pc 34) (some (.invokevirtual 29, 3)) none)))))) (cond (Nat.ble pc 53) (cond (Nat.ble pc 42) (cond (Nat.ble pc 40) (cond (Nat.ble pc 37) (cond (Nat.beq pc 37) (some (.ifCond .ne 16, 3)) none) (cond (Nat.beq pc 40) (some (.aload_n 0, 1)) none)) (cond (Nat.ble pc 41) (cond (Nat.beq pc 41) (some (.dup, 1)) none) (cond (Nat.beq pc 42) (some (.getfield 15, 3)) none))) (cond (Nat.ble pc 46) (cond (Nat.ble pc 45) (cond (Nat.beq pc 45) (some (.aload_n 1, 1)) none) (cond (Nat.beq pc 46) (some (.getfield 15, 3)) none)) (cond (Nat.ble pc 49) (cond (Nat.beq pc 49) (some (.ladd, 1)) none) (cond (Nat.ble pc 50) (cond (Nat.beq pc 50) (some (.putfield 15, 3)) none) (cond (Nat.beq pc 53) (some (.aload_n 0, 1)) none))))) (cond (Nat.ble pc 62) (cond (Nat.ble pc 55) (cond (Nat.ble pc 54) (cond (Nat.beq pc 54) (some (.aload_n 0, 1)) none) (cond (Nat.beq pc 55) (some (.getfield 9, 3)) none)) (cond (Nat.ble pc 58) (cond (Nat.beq pc 58) (some (.aload_n 1, 1)) none) (cond (Nat.ble pc 59) (cond (Nat.beq pc 59) (some (.getfield 9, 3)) none) (cond (Nat.beq pc 62) (some (.iconst 1, 1)) none)))) (cond (Nat.ble pc 64) (cond (Nat.ble pc 63) (cond (Nat.beq pc 63) (some (.iadd, 1)) none) (cond (Nat.beq pc 64) (some (.invokestatic 40, 3)) none)) (cond (Nat.ble pc 67) (cond (Nat.beq pc 67) (some (.putfield 9, 3)) none) (cond (Nat.ble pc 70) (cond (Nat.beq pc 70) (some (.iconst 1, 1)) none) (cond (Nat.beq pc 71) (some (.ireturn, 1)) none)))))))
set_option maxRecDepth 100000 in
theorem zd14_0 : (List.range' 0 72).all (fun pc => match zI14 pc with | some q => decide (decode (zCode 14) pc = .ok q) | none => true) = true := by decide +kernel
theorem zJ14 {pc : Nat} {q : Jvm.ClassFile.Instr × Nat} (h : zI14 pc = some q) : decode (zCode 14) pc = .ok q := by
  have hb := (z_gd (n := 72) (pc := pc) h).1
  exact z_ck zd14_0 (by omega) (by omega) h
end
section
/-! decoded code, by program (wip/whole/gen2.py) -/
def zI15 (pc : Nat) : Option (Jvm.ClassFile.Instr × Nat) := cond (Nat.ble 24 pc) none (cond (Nat.ble pc 10) (cond (Nat.ble pc 4) (cond (Nat.ble pc 0) (cond (Nat.beq pc 0) (some (.aload_n 0, 1)) none) (cond (Nat.ble pc 1) (cond (Nat.beq pc 1) (some (.getfield 19, 3)) none) (cond (Nat.beq pc 4) (some (.bipush 10, 2)) none))) (cond (Nat.ble pc 6) (cond (Nat.beq pc 6) (some (.if_icmp .lt 16, 3)) none) (cond (Nat.ble pc 9) (cond (Nat.beq pc 9) (some (.aload_n 0, 1)) none) (cond (Nat.beq pc 10) (some (.getfield 19, 3)) none)))) (cond (Nat.ble pc 18) (cond (Nat.ble pc 13) (cond (Nat.beq pc 13) (some (.bipush 21, 2)) none) (cond (Nat.ble pc 15) (cond (Nat.beq pc 15) (some (.if_icmp .gt 7, 3)) none) (cond (Nat.beq pc 18) (some (.iconst 1, 1)) none))) (cond (Nat.ble pc 19) (cond (Nat.beq pc 19) (some (.goto 4, 3)) none) (cond (Nat.ble pc 22) (cond (Nat.beq pc 22) (some (.iconst 0, 1)) none) (cond (Nat.beq pc 23) (some (.ireturn, 1)) none)))))
set_option maxRecDepth 100000 in
theorem zd15_0 : (List.range' 0 24).all (fun pc => match zI15 pc with | some q => decide (decode (zCode 15) pc = .ok q) | none => true) = true := by decide +kernel
theorem zJ15 {pc : Nat} {q : Jvm.ClassFile.Instr × Nat} (h : zI15 pc = some q) : decode (zCode 15) pc = .ok q := by
  have hb := (z_gd (n := 24) (pc := pc) h).1
  exact z_ck zd15_0 (by omega) (by omega) h
def zI16 (pc : Nat) : Option (Jvm.ClassFile.Instr × Nat) := cond (Nat.ble 11 pc) none (cond (Nat.ble pc 2) (cond (Nat.ble pc 0) (cond (Nat.beq pc 0) (some (.iload_n 0, 1)) none) (cond (Nat.ble pc 1) (cond (Nat.beq pc 1) (some (.iload_n 1, 1)) none) (cond (Nat.beq pc 2) (some (.if_icmp .lt 7, 3)) none))) (cond (Nat.ble pc 6) (cond (Nat.ble pc 5) (cond (Nat.beq pc 5) (some (.iload_n 0, 1)) none) (cond (Nat.beq pc 6) (some (.goto 4, 3)) none)) (cond (Nat.ble pc 9) (cond (Nat.beq pc 9) (some (.iload_n 1, 1)) none) (cond (Nat.beq pc 10) (some (.ireturn, 1)) none))))
set_option maxRecDepth 100000 in
theorem zd16_0 : (List.range' 0 11).all (fun pc => match zI16 pc with | some q => decide (decode (zCode 16) pc = .ok q) | none => true) = true := by decide +kernel
theorem zJ16 {pc : Nat} {q : Jvm.ClassFile.Instr × Nat} (h : zI16 pc = some q) : decode (zCode 16) pc = .ok q := by
  have hb := (z_gd (n := 11) (pc := pc) h).1
  exact z_ck zd16_0 (by omega) (by omega) h
def zI17 (pc : Nat) : Option (Jvm.ClassFile.Instr × Nat) := cond (Nat.ble 88 pc) none (cond (Nat.ble pc 42) (cond (Nat.ble pc 20) (cond (Nat.ble pc 8) (cond (Nat.ble pc 1) (cond (Nat.ble pc 0) (cond (Nat.beq pc 0) (some (.aload_n 1, 1)) none) (cond (Nat.beq pc 1) (some (.ifnull 10, 3)) none)) (cond (Nat.ble pc 4) (cond (Nat.beq pc 4) (some (.aload_n 1, 1)) none) (cond (Nat.ble pc 5) (cond (Nat.beq pc 5) (some (.invokevirtual 29, 3)) none) (cond (Nat.beq pc 8) (some (.ifCond .ne 5, 3)) none)))) (cond (Nat.ble pc 13) (cond (Nat.ble pc 11) (cond (Nat.beq pc 11) (some (.iconst 0, 1)) none) (cond (Nat.ble pc 12) (cond (Nat.beq pc 12) (some (.ireturn, 1)) none) (cond (Nat.beq pc 13) (some (.aload_n 0, 1)) none))) (cond (Nat.ble pc 14) (cond (Nat.beq pc 14) (some (.getfield 46, 3)) none) (cond (Nat.ble pc 17) (cond (Nat.beq pc 17) (some (.ifnonnull 11, 3)) none) (cond (Nat.beq pc 20) (some (.aload_n 0, 1)) none))))) (cond (Nat.ble pc 30) (cond (Nat.ble pc 25) (cond (Nat.ble pc 21) (cond (Nat.beq pc 21) (some (.aload_n 1, 1)) none) (cond (Nat.ble pc 22) (cond (Nat.beq pc 22) (some (.putfield 46, 3)) none) (cond (Nat.beq pc 25) (some (.goto 8, 3)) none))) (cond (Nat.ble pc 28) (cond (Nat.beq pc 28) (some (.aload_n 0, 1)) none) (cond (Nat.ble pc 29) (cond (Nat.beq pc 29) (some (.aload_n 1, 1)) none) (cond (Nat.beq pc 30) (some (.putfield 49, 3)) none)))) (cond (Nat.ble pc 35) (cond (Nat.ble pc 33) (cond (Nat.beq pc 33) (some (.aload_n 0, 1)) none) (cond (Nat.ble pc 34) (cond (Nat.beq pc 34) (some (.dup, 1)) none) (cond (Nat.beq pc 35) (some (.getfield 15, 3)) none))) (cond (Nat.ble pc 38) (cond (Nat.beq pc 38) (some (.aload_n 1, 1)) none) (cond (Nat.ble pc 39) (cond (Nat.beq pc 39) (some (.getfield 15, 3)) none) (cond (Nat.beq pc 42) (some (.ladd, 1)) none)))))) (cond (Nat.ble pc 63) (cond (Nat.ble pc 51) (cond (Nat.ble pc 46) (cond (Nat.ble pc 43) (cond (Nat.beq pc 43) (some (.putfield 15, 3)) none) (cond (Nat.beq pc 46) (some (.aload_n 0, 1)) none)) (cond (Nat.ble pc 47) (cond (Nat.beq pc 47) (some (.aload_n 0, 1)) none) (cond (Nat.ble pc 48) (cond (Nat.beq pc 48) (some (.getfield 9, 3)) none) (cond (Nat.beq pc 51) (some (.aload_n 1, 1)) none)))) (cond (Nat.ble pc 56) (cond (Nat.ble pc 52) (cond (Nat.beq pc 52) (some (.getfield 9, 3)) none) (cond (Nat.ble pc 55) (cond (Nat.beq pc 55) (some (.iconst 1, 1)) none) (cond (Nat.beq pc 56) (some (.iadd, 1)) none))) (cond (Nat.ble pc 57) (cond (Nat.beq pc 57) (some (.invokestatic 40, 3)) none) (cond (Nat.ble pc 60) (cond (Nat.beq pc 60) (some (.putfield 9, 3)) none) (cond (Nat.beq pc 63) (some (.aload_n 0, 1)) none))))) (cond (Nat.ble pc 75) (cond (Nat.ble pc 68) (cond (Nat.ble pc 64) (cond (Nat.beq pc 64) (some (.aload_n 0, 1)) none) (cond (Nat.ble pc 65) (cond (Nat.beq pc 65) (some (.getfield 22, 3)) none) (cond (Nat.beq pc 68) (some (.ifCond .eq 14, 3)) none))) (cond (Nat.ble pc 71) (cond (Nat.beq pc 71) (some (.aload_n 1, 1)) none) (cond (Nat.ble pc 72) (cond (Nat.beq pc 72) (some (.getfield 22, 3)) none) (cond (Nat.beq pc 75) (some (.ifCond .eq 7, 3)) none)))) (cond (Nat.ble pc 82) (cond (Nat.ble pc 78) (cond (Nat.beq pc 78) (some (.iconst 1, 1)) none) (cond (Nat.ble pc 79) (cond (Nat.beq pc 79) (some (.goto 4, 3)) none) (cond (Nat.beq pc 82) (some (.iconst 0, 1)) none))) (cond (Nat.ble pc 83) (cond (Nat.beq pc 83) (some (.putfield 22, 3)) none) (cond (Nat.ble pc 86) (cond (Nat.beq pc 86) (some (.iconst 1, 1)) none) (cond (Nat.beq pc 87) (some (.ireturn, 1)) none)))))))
set_option maxRecDepth 100000 in
theorem zd17_0 : (List.range' 0 78).all (fun pc => match zI17 pc with | some q => decide (decode (zCode 17) pc = .ok q) | none => true) = true := by decide +kernel
set_option maxRecDepth 100000 in
theorem zd17_1 : (List.range' 78 10).all (fun pc => match zI17 pc with | some q => decide (decode (zCode 17) pc = .ok q) | none => true) = true := by decide +kernel
theorem zJ17 {pc : Nat} {q : Jvm.ClassFile.Instr × Nat} (h : zI17 pc = some q) : decode (zCode 17) pc = .ok q := by
  have hb := (z_gd (n := 88) (pc := pc) h).1
  by_cases c0 : pc < 78
  · exact z_ck zd17_0 (by omega) (by omega) h
  exact z_ck zd17_1 (by omega) (by omega) h
def zI18 (pc : Nat) : Option (Jvm.ClassFile.Instr × Nat) := cond (Nat.ble 21 pc) none (cond (Nat.ble pc 9) (cond (Nat.ble pc 2) (cond (Nat.ble pc 0) (cond (Nat.beq pc 0) (some (.aload_n 0, 1)) none) (cond (Nat.ble pc 1) (cond (Nat.beq pc 1) (some (.iload_n 1, 1)) none) (cond (Nat.beq pc 2) (some (.putfield 26, 3)) none))) (cond (Nat.ble pc 5) (cond (Nat.beq pc 5) (some (.iload_n 1, 1)) none) (cond (Nat.ble pc 6) (cond (Nat.beq pc 6) (some (.ifCond .lt 13, 3)) none) (cond (Nat.beq pc 9) (some (.iload_n 1, 1)) none)))) (cond (Nat.ble pc 15) (cond (Nat.ble pc 10) (cond (Nat.beq pc 10) (some (.bipush 16, 2)) none) (cond (Nat.ble pc 12) (cond (Nat.beq pc 12) (some (.if_icmp .ge 7, 3)) none) (cond (Nat.beq pc 15) (some (.iconst 1, 1)) none))) (cond (Nat.ble pc 16) (cond (Nat.beq pc 16) (some (.goto 4, 3)) none) (cond (Nat.ble pc 19) (cond (Nat.beq pc 19) (some (.iconst 0, 1)) none) (cond (Nat.beq pc 20) (some (.ireturn, 1)) none)))))
set_option maxRecDepth 100000 in
theorem zd18_0 : (List.range' 0 21).all (fun pc => match zI18 pc with | some q => decide (decode (zCode 18) pc = .ok q) | none => true) = true := by decide +kernel
theorem zJ18 {pc : Nat} {q : Jvm.ClassFile.Instr × Nat} (h : zI18 pc = some q) : decode (zCode 18) pc = .ok q := by
  have hb := (z_gd (n := 21) (pc := pc) h).1
  exact z_ck zd18_0 (by omega) (by omega) h
def zI19 (pc : Nat) : Option (Jvm.ClassFile.Instr × Nat) := cond (Nat.ble 25 pc) none (cond (Nat.ble pc 11) (cond (Nat.ble pc 4) (cond (Nat.ble pc 0) (cond (Nat.beq pc 0) (some (.aload_n 1, 1)) none) (cond (Nat.ble pc 1) (cond (Nat.beq pc 1) (some (.ifnull 22, 3)) none) (cond (Nat.beq pc 4) (some (.aload_n 1, 1)) none))) (cond (Nat.ble pc 5) (cond (Nat.beq pc 5) (some (.getfield 22, 3)) none) (cond (Nat.ble pc 8) (cond (Nat.beq pc 8) (some (.ifCond .eq 15, 3)) none) (cond (Nat.beq pc 11) (some (.aload_n 0, 1)) none)))) (cond (Nat.ble pc 16) (cond (Nat.ble pc 12) (cond (Nat.beq pc 12) (some (.aload_n 1, 1)) none) (cond (Nat.ble pc 13) (cond (Nat.beq pc 13) (some (.invokevirtual 52, 3)) none) (cond (Nat.beq pc 16) (some (.ifCond .eq 7, 3)) none))) (cond (Nat.ble pc 20) (cond (Nat.ble pc 19) (cond (Nat.beq pc 19) (some (.iconst 1, 1)) none) (cond (Nat.beq pc 20) (some (.goto 4, 3)) none)) (cond (Nat.ble pc 23) (cond (Nat.beq pc 23) (some (.iconst 0, 1)) none) (cond (Nat.beq pc 24) (some (.ireturn, 1)) none)))))
set_option maxRecDepth 100000 in
theorem zd19_0 : (List.range' 0 25).all (fun pc => match zI19 pc with | some q => decide (decode (zCode 19) pc = .ok q) | none => true) = true := by decide +kernel
theorem zJ19 {pc : Nat} {q : Jvm.ClassFile.Instr × Nat} (h : zI19 pc = some q) : decode (zCode 19) pc = .ok q := by
  have hb := (z_gd (n := 25) (pc := pc) h).1
  exact z_ck zd19_0 (by omega) (by omega) h
def zI20 (pc : Nat) : Option (Jvm.ClassFile.Instr × Nat) := cond (Nat.ble 16 pc) none (cond (Nat.ble pc 7) (cond (Nat.ble pc 1) (cond (Nat.ble pc 0) (cond (Nat.beq pc 0) (some (.aload_n 0, 1)) none) (cond (Nat.beq pc 1) (some (.getfield 19, 3)) none)) (cond (Nat.ble pc 4) (cond (Nat.beq pc 4) (some (.getfield 31, 3)) none) (cond (Nat.beq pc 7) (some (.getfield 35, 3)) none))) (cond (Nat.ble pc 11) (cond (Nat.ble pc 10) (cond (Nat.beq pc 10) (some (.iload_n 1, 1)) none) (cond (Nat.beq pc 11) (some (.lload_n 2, 1)) none)) (cond (Nat.ble pc 12) (cond (Nat.beq pc 12) (some (.invokestatic 41, 3)) none) (cond (Nat.beq pc 15) (some (.ireturn, 1)) none))))
set_option maxRecDepth 100000 in
theorem zd20_0 : (List.range' 0 16).all (fun pc => match zI20 pc with | some q => decide (decode (zCode 20) pc = .ok q) | none => true) = true := by decide +kernel
theorem zJ20 {pc : Nat} {q : Jvm.ClassFile.Instr × Nat} (h : zI20 pc = some q) : decode (zCode 20) pc = .ok q := by
  have hb := (z_gd (n := 16) (pc := pc) h).1
  exact z_ck zd20_0 (by omega) (by omega) h
def zI21 (pc : Nat) : Option (Jvm.ClassFile.Instr × Nat) := cond (Nat.ble 18 pc) none (cond (Nat.ble pc 10) (cond (Nat.ble pc 4) (cond (Nat.ble pc 0) (cond (Nat.beq pc 0) (some (.iload_n 1, 1)) none) (cond (Nat.ble pc 1) (cond (Nat.beq pc 1) (some (.ifCond .lt 9, 3)) none) (cond (Nat.beq pc 4) (some (.iload_n 1, 1)) none))) (cond (Nat.ble pc 6) (cond (Nat.ble pc 5) (cond (Nat.beq pc 5) (some (.aload_n 0, 1)) none) (cond (Nat.beq pc 6) (some (.arraylength, 1)) none)) (cond (Nat.ble pc 7) (cond (Nat.beq pc 7) (some (.if_icmp .lt 5, 3)) none) (cond (Nat.beq pc 10) (some (.iconst 0, 1)) none)))) (cond (Nat.ble pc 13) (cond (Nat.ble pc 11) (cond (Nat.beq pc 11) (some (.ireturn, 1)) none) (cond (Nat.ble pc 12) (cond (Nat.beq pc 12) (some (.aload_n 0, 1)) none) (cond (Nat.beq pc 13) (some (.iload_n 1, 1)) none))) (cond (Nat.ble pc 15) (cond (Nat.ble pc 14) (cond (Nat.beq pc 14) (some (.lload_n 2, 1)) none) (cond (Nat.beq pc 15) (some (.lastore, 1)) none)) (cond (Nat.ble pc 16) (cond (Nat.beq pc 16) (some (.iconst 1, 1)) none) (cond (Nat.beq pc 17) (some (.ireturn, 1)) none)))))
set_option maxRecDepth 100000 in
theorem zd21_0 : (List.range' 0 18).all (fun pc => match zI21 pc with | some q => decide (decode (zCode 21) pc = .ok q) | none => true) = true := by decide +kernel
theorem zJ21 {pc : Nat} {q : Jvm.ClassFile.Instr × Nat} (h : zI21 pc = some q) : decode (zCode 21) pc = .ok q := by
  have hb := (z_gd (n := 18) (pc := pc) h).1
  exact z_ck zd21_0 (by omega) (by omega) h
def zI22 (pc : Nat) : Option (Jvm.ClassFile.Instr × Nat) := cond (Nat.ble 50 pc) none (cond (Nat.ble pc 22) (cond (Nat.ble pc 9) (cond (Nat.ble pc 4) (cond (Nat.ble pc 0) (cond (Nat.beq pc 0) (some (.aload_n 0, 1)) none) (cond (Nat.ble pc 1) (cond (Nat.beq pc 1) (some (.getfield 10, 3)) none) (cond (Nat.beq pc 4) (some (.iload_n 1, 1)) none))) (cond (Nat.ble pc 5) (cond (Nat.beq pc 5) (some (.invokevirtual 45, 3)) none) (cond (Nat.ble pc 8) (cond (Nat.beq pc 8) (some (.astore_n 2, 1)) none) (cond (Nat.beq pc 9) (some (.aload_n 2, 1)) none)))) (cond (Nat.ble pc 14) (cond (Nat.ble pc 10) (cond (Nat.beq pc 10) (some (.ifnull 10, 3)) none) (cond (Nat.ble pc 13) (cond (Nat.beq pc 13) (some (.aload_n 2, 1)) none) (cond (Nat.beq pc 14) (some (.invokevirtual 49, 3)) none))) (cond (Nat.ble pc 20) (cond (Nat.ble pc 17) (cond (Nat.beq pc 17) (some (.ifCond .ne 5, 3)) none) (cond (Nat.beq pc 20) (some (.iconst (-1), 1)) none)) (cond (Nat.ble pc 21) (cond (Nat.beq pc 21) (some (.ireturn, 1)) none) (cond (Nat.beq pc 22) (some (.aload_n 2, 1)) none))))) (cond (Nat.ble pc 36) (cond (Nat.ble pc 29) (cond (Nat.ble pc 23) (cond (Nat.beq pc 23) (some (.getfield 55, 3)) none) (cond (Nat.ble pc 26) (cond (Nat.beq pc 26) (some (.ldc2_w 59, 3)) none) (cond (Nat.beq pc 29) (some (.lcmp, 1)) none))) (cond (Nat.ble pc 33) (cond (Nat.ble pc 30) (cond (Nat.beq pc 30) (some (.ifCond .le 6, 3)) none) (cond (Nat.beq pc 33) (some (.bipush (-2), 2)) none)) (cond (Nat.ble pc 35) (cond (Nat.beq pc 35) (some (.ireturn, 1)) none) (cond (Nat.beq pc 36) (some (.aload_n 0, 1)) none)))) (cond (Nat.ble pc 41) (cond (Nat.ble pc 37) (cond (Nat.beq pc 37) (some (.getfield 19, 3)) none) (cond (Nat.ble pc 40) (cond (Nat.beq pc 40) (some (.aload_n 2, 1)) none) (cond (Nat.beq pc 41) (some (.invokevirtual 61, 3)) none))) (cond (Nat.ble pc 45) (cond (Nat.ble pc 44) (cond (Nat.beq pc 44) (some (.aload_n 2, 1)) none) (cond (Nat.beq pc 45) (some (.getfield 55, 3)) none)) (cond (Nat.ble pc 48) (cond (Nat.beq pc 48) (some (.l2i, 1)) none) (cond (Nat.beq pc 49) (some (.ireturn, 1)) none))))))
set_option maxRecDepth 100000 in
theorem zd22_0 : (List.range' 0 50).all (fun pc => match zI22 pc with | some q => decide (decode (zCode 22) pc = .ok q) | none => true) = true := by decide +kernel
theorem zJ22 {pc : Nat} {q : Jvm.ClassFile.Instr × Nat} (h : zI22 pc = some q) : decode (zCode 22) pc = .ok q := by
  have hb := (z_gd (n := 50) (pc := pc) h).1
  exact z_ck zd22_0 (by omega) (by omega) h
def zI23 (pc : Nat) : Option (Jvm.ClassFile.Instr × Nat) := cond (Nat.ble 39 pc) none (cond (Nat.ble pc 19) (cond (Nat.ble pc 8) (cond (Nat.ble pc 1) (cond (Nat.ble pc 0) (cond (Nat.beq pc 0) (some (.aload_n 0, 1)) none) (cond (Nat.beq pc 1) (some (.getfield 12, 3)) none)) (cond (Nat.ble pc 4) (cond (Nat.beq pc 4) (some (.invokevirtual 35, 3)) none) (cond (Nat.ble pc 7) (cond (Nat.beq pc 7) (some (.aload_n 0, 1)) none) (cond (Nat.beq pc 8) (some (.getfield 21, 3)) none)))) (cond (Nat.ble pc 14) (cond (Nat.ble pc 11) (cond (Nat.beq pc 11) (some (.invokevirtual 38, 3)) none) (cond (Nat.beq pc 14) (some (.aload_n 0, 1)) none)) (cond (Nat.ble pc 15) (cond (Nat.beq pc 15) (some (.iconst 0, 1)) none) (cond (Nat.ble pc 16) (cond (Nat.beq pc 16) (some (.putfield 41, 3)) none) (cond (Nat.beq pc 19) (some (.aload_n 0, 1)) none))))) (cond (Nat.ble pc 26) (cond (Nat.ble pc 21) (cond (Nat.ble pc 20) (cond (Nat.beq pc 20) (some (.iconst 0, 1)) none) (cond (Nat.beq pc 21) (some (.putfield 44, 3)) none)) (cond (Nat.ble pc 24) (cond (Nat.beq pc 24) (some (.aload_n 0, 1)) none) (cond (Nat.ble pc 25) (cond (Nat.beq pc 25) (some (.aload_n 0, 1)) none) (cond (Nat.beq pc 26) (some (.aload_n 1, 1)) none)))) (cond (Nat.ble pc 33) (cond (Nat.ble pc 27) (cond (Nat.beq pc 27) (some (.invokevirtual 47, 3)) none) (cond (Nat.ble pc 30) (cond (Nat.beq pc 30) (some (.putfield 51, 3)) none) (cond (Nat.beq pc 33) (some (.aload_n 0, 1)) none))) (cond (Nat.ble pc 34) (cond (Nat.beq pc 34) (some (.iconst 0, 1)) none) (cond (Nat.ble pc 35) (cond (Nat.beq pc 35) (some (.putfield 31, 3)) none) (cond (Nat.beq pc 38) (some (.return_, 1)) none))))))
set_option maxRecDepth 100000 in
theorem zd23_0 : (List.range' 0 39).all (fun pc => match zI23 pc with | some q => decide (decode (zCode 23) pc = .ok q) | none => true) = true := by decide +kernel
theorem zJ23 {pc : Nat} {q : Jvm.ClassFile.Instr × Nat} (h : zI23 pc = some q) : decode (zCode 23) pc = .ok q := by
  have hb := (z_gd (n := 39) (pc := pc) h).1
  exact z_ck zd23_0 (by omega) (by omega) h
def zI24 (pc : Nat) : Option (Jvm.ClassFile.Instr × Nat) := cond (Nat.ble 17 pc) none (cond (Nat.ble pc 5) (cond (Nat.ble pc 1) (cond (Nat.ble pc 0) (cond (Nat.beq pc 0) (some (.aload_n 0, 1)) none) (cond (Nat.beq pc 1) (some (.getfield 15, 3)) none)) (cond (Nat.ble pc 4) (cond (Nat.beq pc 4) (some (.lconst 0, 1)) none) (cond (Nat.beq pc 5) (some (.invokestatic 28, 3)) none))) (cond (Nat.ble pc 9) (cond (Nat.ble pc 8) (cond (Nat.beq pc 8) (some (.aload_n 0, 1)) none) (cond (Nat.beq pc 9) (some (.getfield 18, 3)) none)) (cond (Nat.ble pc 12) (cond (Nat.beq pc 12) (some (.lconst 0, 1)) none) (cond (Nat.ble pc 13) (cond (Nat.beq pc 13) (some (.invokestatic 28, 3)) none) (cond (Nat.beq pc 16) (some (.return_, 1)) none)))))
set_option maxRecDepth 100000 in
theorem zd24_0 : (List.range' 0 17).all (fun pc => match zI24 pc with | some q => decide (decode (zCode 24) pc = .ok q) | none => true) = true := by decide +kernel
theorem zJ24 {pc : Nat} {q : Jvm.ClassFile.Instr × Nat} (h : zI24 pc = some q) : decode (zCode 24) pc = .ok q := by
  have hb := (z_gd (n := 17) (pc := pc) h).1
  exact z_ck zd24_0 (by omega) (by omega) h
def zI25 (pc : Nat) : Option (Jvm.ClassFile.Instr × Nat) := cond (Nat.ble 23 pc) none (cond (Nat.ble pc 7) (cond (Nat.ble pc 2) (cond (Nat.ble pc 0) (cond (Nat.beq pc 0) (some (.iconst 0, 1)) none) (cond (Nat.ble pc 1) (cond (Nat.beq pc 1) (some (.istore_n 3, 1)) none) (cond (Nat.beq pc 2) (some (.aload_n 0, 1)) none))) (cond (Nat.ble pc 4) (cond (Nat.ble pc 3) (cond (Nat.beq pc 3) (some (.arraylength, 1)) none) (cond (Nat.beq pc 4) (some (.istore 4, 2)) none)) (cond (Nat.ble pc 6) (cond (Nat.beq pc 6) (some (.iload_n 3, 1)) none) (cond (Nat.beq pc 7) (some (.iload 4, 2)) none)))) (cond (Nat.ble pc 14) (cond (Nat.ble pc 12) (cond (Nat.ble pc 9) (cond (Nat.beq pc 9) (some (.if_icmp .ge 13, 3)) none) (cond (Nat.beq pc 12) (some (.aload_n 0, 1)) none)) (cond (Nat.ble pc 13) (cond (Nat.beq pc 13) (some (.iload_n 3, 1)) none) (cond (Nat.beq pc 14) (some (.lload_n 1, 1)) none))) (cond (Nat.ble pc 16) (cond (Nat.ble pc 15) (cond (Nat.beq pc 15) (some (.lastore, 1)) none) (cond (Nat.beq pc 16) (some (.iinc 3 1, 3)) none)) (cond (Nat.ble pc 19) (cond (Nat.beq pc 19) (some (.goto (-13), 3)) none) (cond (Nat.beq pc 22) (some (.return_, 1)) none)))))
set_option maxRecDepth 100000 in
theorem zd25_0 : (List.range' 0 23).all (fun pc => match zI25 pc with | some q => decide (decode (zCode 25) pc = .ok q) | none => true) = true := by decide +kernel
theorem zJ25 {pc : Nat} {q : Jvm.ClassFile.Instr × Nat} (h : zI25 pc = some q) : decode (zCode 25) pc = .ok q := by
  have hb := (z_gd (n := 23) (pc := pc) h).1
  exact z_ck zd25_0 (by omega) (by omega) h
def zI26 (pc : Nat) : Option (Jvm.ClassFile.Instr × Nat) := cond (Nat.ble 11 pc) none (cond (Nat.ble pc 2) (cond (Nat.ble pc 0) (cond (Nat.beq pc 0) (some (.aload_n 0, 1)) none) (cond (Nat.ble pc 1) (cond (Nat.beq pc 1) (some (.iconst 0, 1)) none) (cond (Nat.beq pc 2) (some (.putfield 24, 3)) none))) (cond (Nat.ble pc 6) (cond (Nat.ble pc 5) (cond (Nat.beq pc 5) (some (.aload_n 0, 1)) none) (cond (Nat.beq pc 6) (some (.iconst 0, 1)) none)) (cond (Nat.ble pc 7) (cond (Nat.beq pc 7) (some (.putfield 28, 3)) none) (cond (Nat.beq pc 10) (some (.return_, 1)) none))))
set_option maxRecDepth 100000 in
theorem zd26_0 : (List.range' 0 11).all (fun pc => match zI26 pc with | some q => decide (decode (zCode 26) pc = .ok q) | none => true) = true := by decide +kernel
theorem zJ26 {pc : Nat} {q : Jvm.ClassFile.Instr × Nat} (h : zI26 pc = some q) : decode (zCode 26) pc = .ok q := by
  have hb := (z_gd (n := 11) (pc := pc) h).1
  exact z_ck zd26_0 (by omega) (by omega) h
def zI27 (pc : Nat) : Option (Jvm.ClassFile.Instr × Nat) := cond (Nat.ble 91 pc) none (cond (Nat.ble pc 44) (cond (Nat.ble pc 19) (cond (Nat.ble pc 9) (cond (Nat.ble pc 4) (cond (Nat.ble pc 0) (cond (Nat.beq pc 0) (some (.aload_n 1, 1)) none) (cond (Nat.ble pc 1) (cond (Nat.beq pc 1) (some (.ifnull 15, 3)) none) (cond (Nat.beq pc 4) (some (.aload_n 0, 1)) none))) (cond (Nat.ble pc 5) (cond (Nat.beq pc 5) (some (.getfield 44, 3)) none) (cond (Nat.ble pc 8) (cond (Nat.beq pc 8) (some (.aload_n 0, 1)) none) (cond (Nat.beq pc 9) (some (.getfield 27, 3)) none)))) (cond (Nat.ble pc 16) (cond (Nat.ble pc 12) (cond (Nat.beq pc 12) (some (.arraylength, 1)) none) (cond (Nat.ble pc 13) (cond (Nat.beq pc 13) (some (.if_icmp .lt 5, 3)) none) (cond (Nat.beq pc 16) (some (.aconst_null, 1)) none))) (cond (Nat.ble pc 17) (cond (Nat.beq pc 17) (some (.areturn, 1)) none) (cond (Nat.ble pc 18) (cond (Nat.beq pc 18) (some (.aload_n 0, 1)) none) (cond (Nat.beq pc 19) (some (.getfield 27, 3)) none))))) (cond (Nat.ble pc 29) (cond (Nat.ble pc 26) (cond (Nat.ble pc 22) (cond (Nat.beq pc 22) (some (.aload_n 0, 1)) none) (cond (Nat.ble pc 23) (cond (Nat.beq pc 23) (some (.getfield 44, 3)) none) (cond (Nat.beq pc 26) (some (.aaload, 1)) none))) (cond (Nat.ble pc 27) (cond (Nat.beq pc 27) (some (.astore_n 2, 1)) none) (cond (Nat.ble pc 28) (cond (Nat.beq pc 28) (some (.aload_n 2, 1)) none) (cond (Nat.beq pc 29) (some (.ifnonnull 21, 3)) none)))) (cond (Nat.ble pc 36) (cond (Nat.ble pc 32) (cond (Nat.beq pc 32) (some (.new 25, 3)) none) (cond (Nat.ble pc 35) (cond (Nat.beq pc 35) (some (.dup, 1)) none) (cond (Nat.beq pc 36) (some (.invokespecial 55, 3)) none))) (cond (Nat.ble pc 40) (cond (Nat.ble pc 39) (cond (Nat.beq pc 39) (some (.astore_n 2, 1)) none) (cond (Nat.beq pc 40) (some (.aload_n 0, 1)) none)) (cond (Nat.ble pc 41) (cond (Nat.beq pc 41) (some (.getfield 27, 3)) none) (cond (Nat.beq pc 44) (some (.aload_n 0, 1)) none)))))) (cond (Nat.ble pc 65) (cond (Nat.ble pc 52) (cond (Nat.ble pc 49) (cond (Nat.ble pc 45) (cond (Nat.beq pc 45) (some (.getfield 44, 3)) none) (cond (Nat.ble pc 48) (cond (Nat.beq pc 48) (some (.aload_n 2, 1)) none) (cond (Nat.beq pc 49) (some (.aastore, 1)) none))) (cond (Nat.ble pc 50) (cond (Nat.beq pc 50) (some (.aload_n 0, 1)) none) (cond (Nat.ble pc 51) (cond (Nat.beq pc 51) (some (.dup, 1)) none) (cond (Nat.beq pc 52) (some (.getfield 44, 3)) none)))) (cond (Nat.ble pc 57) (cond (Nat.ble pc 55) (cond (Nat.beq pc 55) (some (.iconst 1, 1)) none) (cond (Nat.ble pc 56) (cond (Nat.beq pc 56) (some (.iadd, 1)) none) (cond (Nat.beq pc 57) (some (.putfield 44, 3)) none))) (cond (Nat.ble pc 61) (cond (Nat.ble pc 60) (cond (Nat.beq pc 60) (some (.aload_n 2, 1)) none) (cond (Nat.beq pc 61) (some (.aload_n 1, 1)) none)) (cond (Nat.ble pc 62) (cond (Nat.beq pc 62) (some (.invokevirtual 56, 3)) none) (cond (Nat.beq pc 65) (some (.aload_n 2, 1)) none))))) (cond (Nat.ble pc 77) (cond (Nat.ble pc 68) (cond (Nat.ble pc 66) (cond (Nat.beq pc 66) (some (.aload_n 0, 1)) none) (cond (Nat.ble pc 67) (cond (Nat.beq pc 67) (some (.aload_n 1, 1)) none) (cond (Nat.beq pc 68) (some (.getfield 60, 3)) none))) (cond (Nat.ble pc 71) (cond (Nat.beq pc 71) (some (.invokevirtual 47, 3)) none) (cond (Nat.ble pc 74) (cond (Nat.beq pc 74) (some (.putfield 66, 3)) none) (cond (Nat.beq pc 77) (some (.aload_n 2, 1)) none)))) (cond (Nat.ble pc 80) (cond (Nat.ble pc 78) (cond (Nat.beq pc 78) (some (.aload_n 0, 1)) none) (cond (Nat.ble pc 79) (cond (Nat.beq pc 79) (some (.aload_n 1, 1)) none) (cond (Nat.beq pc 80) (some (.getfield 68, 3)) none))) (cond (Nat.ble pc 86) (cond (Nat.ble pc 83) (cond (Nat.beq pc 83) (some (.invokevirtual 47, 3)) none) (cond (Nat.beq pc 86) (some (.putfield 70, 3)) none)) (cond (Nat.ble pc 89) (cond (Nat.beq pc 89) (some (.aload_n 2, 1)) none) (cond (Nat.beq pc 90) (some (.areturn, 1)) none)))))))
set_option maxRecDepth 100000 in
theorem zd27_0 : (List.range' 0 68).all (fun pc => match zI27 pc with | some q => decide (decode (zCode 27) pc = .ok q) | none => true) = true := by decide +kernel
set_option maxRecDepth 100000 in
theorem zd27_1 : (List.range' 68 23).all (fun pc => match zI27 pc with | some q => decide (decode (zCode 27) pc = .ok q) | none => true) = true := by decide +kernel
theorem zJ27 {pc : Nat} {q : Jvm.ClassFile.Instr × Nat} (h : zI27 pc = some q) : decode (zCode 27) pc = .ok q := by
  have hb := (z_gd (n := 91) (pc := pc) h).1
  by_cases c0 : pc < 68
  · exact z_ck zd27_0 (by omega) (by omega) h
  exact z_ck zd27_1 (by omega) (by omega) h
def zI28 (pc : Nat) : Option (Jvm.ClassFile.Instr × Nat) := cond (Nat.ble 5 pc) none (cond (Nat.ble pc 0) (cond (Nat.beq pc 0) (some (.aload_n 0, 1)) none) (cond (Nat.ble pc 1) (cond (Nat.beq pc 1) (some (.invokespecial 3, 3)) none) (cond (Nat.beq pc 4) (some (.return_, 1)) none)))
set_option maxRecDepth 100000 in
theorem zd28_0 : (List.range' 0 5).all (fun pc => match zI28 pc with | some q => decide (decode (zCode 28) pc = .ok q) | none => true) = true := by decide +kernel
theorem zJ28 {pc : Nat} {q : Jvm.ClassFile.Instr × Nat} (h : zI28 pc = some q) : decode (zCode 28) pc = .ok q := by
  have hb := (z_gd (n := 5) (pc := pc) h).1
  exact z_ck zd28_0 (by omega) (by omega) h
def zI29 (pc : Nat) : Option (Jvm.ClassFile.Instr × Nat) := cond (Nat.ble 46 pc) none (cond (Nat.ble pc 21) (cond (Nat.ble pc 9) (cond (Nat.ble pc 2) (cond (Nat.ble pc 0) (cond (Nat.beq pc 0) (some (.aload_n 0, 1)) none) (cond (Nat.ble pc 1) (cond (Nat.beq pc 1) (some (.aload_n 1, 1)) none) (cond (Nat.beq pc 2) (some (.getfield 9, 3)) none))) (cond (Nat.ble pc 5) (cond (Nat.beq pc 5) (some (.putfield 15, 3)) none) (cond (Nat.ble pc 8) (cond (Nat.beq pc 8) (some (.aload_n 0, 1)) none) (cond (Nat.beq pc 9) (some (.aload_n 1, 1)) none)))) (cond (Nat.ble pc 16) (cond (Nat.ble pc 10) (cond (Nat.beq pc 10) (some (.getfield 18, 3)) none) (cond (Nat.ble pc 13) (cond (Nat.beq pc 13) (some (.putfield 21, 3)) none) (cond (Nat.beq pc 16) (some (.aload_n 0, 1)) none))) (cond (Nat.ble pc 17) (cond (Nat.beq pc 17) (some (.aload_n 1, 1)) none) (cond (Nat.ble pc 18) (cond (Nat.beq pc 18) (some (.getfield 22, 3)) none) (cond (Nat.beq pc 21) (some (.putfield 25, 3)) none))))) (cond (Nat.ble pc 33) (cond (Nat.ble pc 26) (cond (Nat.ble pc 24) (cond (Nat.beq pc 24) (some (.aload_n 0, 1)) none) (cond (Nat.ble pc 25) (cond (Nat.beq pc 25) (some (.aload_n 1, 1)) none) (cond (Nat.beq pc 26) (some (.getfield 26, 3)) none))) (cond (Nat.ble pc 29) (cond (Nat.beq pc 29) (some (.putfield 30, 3)) none) (cond (Nat.ble pc 32) (cond (Nat.beq pc 32) (some (.aload_n 0, 1)) none) (cond (Nat.beq pc 33) (some (.aload_n 1, 1)) none)))) (cond (Nat.ble pc 40) (cond (Nat.ble pc 34) (cond (Nat.beq pc 34) (some (.getfield 31, 3)) none) (cond (Nat.ble pc 37) (cond (Nat.beq pc 37) (some (.putfield 34, 3)) none) (cond (Nat.beq pc 40) (some (.aload_n 0, 1)) none))) (cond (Nat.ble pc 41) (cond (Nat.beq pc 41) (some (.iconst 0, 1)) none) (cond (Nat.ble pc 42) (cond (Nat.beq pc 42) (some (.putfield 35, 3)) none) (cond (Nat.beq pc 45) (some (.return_, 1)) none))))))
set_option maxRecDepth 100000 in
theorem zd29_0 : (List.range' 0 46).all (fun pc => match zI29 pc with | some q => decide (decode (zCode 29) pc = .ok q) | none => true) = true := by decide +kernel
theorem zJ29 {pc : Nat} {q : Jvm.ClassFile.Instr × Nat} (h : zI29 pc = some q) : decode (zCode 29) pc = .ok q := by
  have hb := (z_gd (n := 46) (pc := pc) h).1
  exact z_ck zd29_0 (by omega) (by omega) h
def zI30 (pc : Nat) : Option (Jvm.ClassFile.Instr × Nat) := cond (Nat.ble 62 pc) none (cond (Nat.ble pc 26) (cond (Nat.ble pc 12) (cond (Nat.ble pc 4) (cond (Nat.ble pc 0) (cond (Nat.beq pc 0) (some (.aload_n 0, 1)) none) (cond (Nat.ble pc 1) (cond (Nat.beq pc 1) (some (.getfield 19, 3)) none) (cond (Nat.beq pc 4) (some (.getfield 65, 3)) none))) (cond (Nat.ble pc 8) (cond (Nat.ble pc 7) (cond (Nat.beq pc 7) (some (.iconst (-1), 1)) none) (cond (Nat.beq pc 8) (some (.if_icmp .eq 14, 3)) none)) (cond (Nat.ble pc 11) (cond (Nat.beq pc 11) (some (.iload_n 1, 1)) none) (cond (Nat.beq pc 12) (some (.ifCond .lt 10, 3)) none)))) (cond (Nat.ble pc 22) (cond (Nat.ble pc 16) (cond (Nat.ble pc 15) (cond (Nat.beq pc 15) (some (.iload_n 1, 1)) none) (cond (Nat.beq pc 16) (some (.sipush 10000, 3)) none)) (cond (Nat.ble pc 19) (cond (Nat.beq pc 19) (some (.if_icmp .le 5, 3)) none) (cond (Nat.beq pc 22) (some (.iconst (-1), 1)) none))) (cond (Nat.ble pc 24) (cond (Nat.ble pc 23) (cond (Nat.beq pc 23) (some (.ireturn, 1)) none) (cond (Nat.beq pc 24) (some (.iconst 0, 1)) none)) (cond (Nat.ble pc 25) (cond (Nat.beq pc 25) (some (.istore_n 2, 1)) none) (cond (Nat.beq pc 26) (some (.iload_n 2, 1)) none))))) (cond (Nat.ble pc 41) (cond (Nat.ble pc 31) (cond (Nat.ble pc 27) (cond (Nat.beq pc 27) (some (.iload_n 1, 1)) none) (cond (Nat.ble pc 28) (cond (Nat.beq pc 28) (some (.if_icmp .ge 26, 3)) none) (cond (Nat.beq pc 31) (some (.aload_n 0, 1)) none))) (cond (Nat.ble pc 35) (cond (Nat.ble pc 32) (cond (Nat.beq pc 32) (some (.getfield 19, 3)) none) (cond (Nat.beq pc 35) (some (.getfield 65, 3)) none)) (cond (Nat.ble pc 38) (cond (Nat.beq pc 38) (some (.ifCond .ne 16, 3)) none) (cond (Nat.beq pc 41) (some (.aload_n 0, 1)) none)))) (cond (Nat.ble pc 51) (cond (Nat.ble pc 45) (cond (Nat.ble pc 42) (cond (Nat.beq pc 42) (some (.getfield 19, 3)) none) (cond (Nat.beq pc 45) (some (.invokevirtual 69, 3)) none)) (cond (Nat.ble pc 48) (cond (Nat.beq pc 48) (some (.iinc 2 1, 3)) none) (cond (Nat.beq pc 51) (some (.goto (-25), 3)) none))) (cond (Nat.ble pc 55) (cond (Nat.ble pc 54) (cond (Nat.beq pc 54) (some (.aload_n 0, 1)) none) (cond (Nat.beq pc 55) (some (.getfield 19, 3)) none)) (cond (Nat.ble pc 58) (cond (Nat.beq pc 58) (some (.getfield 65, 3)) none) (cond (Nat.beq pc 61) (some (.ireturn, 1)) none))))))
set_option maxRecDepth 100000 in
theorem zd30_0 : (List.range' 0 62).all (fun pc => match zI30 pc with | some q => decide (decode (zCode 30) pc = .ok q) | none => true) = true := by decide +kernel
theorem zJ30 {pc : Nat} {q : Jvm.ClassFile.Instr × Nat} (h : zI30 pc = some q) : decode (zCode 30) pc = .ok q := by
  have hb := (z_gd (n := 62) (pc := pc) h).1
  exact z_ck zd30_0 (by omega) (by omega) h
def zI31 (pc : Nat) : Option (Jvm.ClassFile.Instr × Nat) := cond (Nat.ble 58 pc) none (cond (Nat.ble pc 27) (cond (Nat.ble pc 11) (cond (Nat.ble pc 5) (cond (Nat.ble pc 1) (cond (Nat.ble pc 0) (cond (Nat.beq pc 0) (some (.aload_n 0, 1)) none) (cond (Nat.beq pc 1) (some (.iconst 0, 1)) none)) (cond (Nat.ble pc 2) (cond (Nat.beq pc 2) (some (.putfield 72, 3)) none) (cond (Nat.beq pc 5) (some (.aload_n 0, 1)) none))) (cond (Nat.ble pc 9) (cond (Nat.ble pc 6) (cond (Nat.beq pc 6) (some (.invokevirtual 75, 3)) none) (cond (Nat.beq pc 9) (some (.aload_n 0, 1)) none)) (cond (Nat.ble pc 10) (cond (Nat.beq pc 10) (some (.aload_n 0, 1)) none) (cond (Nat.beq pc 11) (some (.getfield 51, 3)) none)))) (cond (Nat.ble pc 19) (cond (Nat.ble pc 17) (cond (Nat.ble pc 14) (cond (Nat.beq pc 14) (some (.invokevirtual 78, 3)) none) (cond (Nat.beq pc 17) (some (.istore_n 1, 1)) none)) (cond (Nat.ble pc 18) (cond (Nat.beq pc 18) (some (.aload_n 0, 1)) none) (cond (Nat.beq pc 19) (some (.getfield 82, 3)) none))) (cond (Nat.ble pc 25) (cond (Nat.ble pc 22) (cond (Nat.beq pc 22) (some (.ifCond .eq 11, 3)) none) (cond (Nat.beq pc 25) (some (.aload_n 0, 1)) none)) (cond (Nat.ble pc 26) (cond (Nat.beq pc 26) (some (.iconst 2, 1)) none) (cond (Nat.beq pc 27) (some (.putfield 31, 3)) none))))) (cond (Nat.ble pc 43) (cond (Nat.ble pc 37) (cond (Nat.ble pc 33) (cond (Nat.ble pc 30) (cond (Nat.beq pc 30) (some (.goto 12, 3)) none) (cond (Nat.beq pc 33) (some (.iload_n 1, 1)) none)) (cond (Nat.ble pc 34) (cond (Nat.beq pc 34) (some (.ifCond .eq 8, 3)) none) (cond (Nat.beq pc 37) (some (.aload_n 0, 1)) none))) (cond (Nat.ble pc 39) (cond (Nat.ble pc 38) (cond (Nat.beq pc 38) (some (.iconst 1, 1)) none) (cond (Nat.beq pc 39) (some (.putfield 31, 3)) none)) (cond (Nat.ble pc 42) (cond (Nat.beq pc 42) (some (.aload_n 0, 1)) none) (cond (Nat.beq pc 43) (some (.iconst 0, 1)) none)))) (cond (Nat.ble pc 49) (cond (Nat.ble pc 47) (cond (Nat.ble pc 44) (cond (Nat.beq pc 44) (some (.putfield 82, 3)) none) (cond (Nat.beq pc 47) (some (.aload_n 0, 1)) none)) (cond (Nat.ble pc 48) (cond (Nat.beq pc 48) (some (.dup, 1)) none) (cond (Nat.beq pc 49) (some (.getfield 41, 3)) none))) (cond (Nat.ble pc 53) (cond (Nat.ble pc 52) (cond (Nat.beq pc 52) (some (.iconst 1, 1)) none) (cond (Nat.beq pc 53) (some (.iadd, 1)) none)) (cond (Nat.ble pc 54) (cond (Nat.beq pc 54) (some (.putfield 41, 3)) none) (cond (Nat.beq pc 57) (some (.return_, 1)) none))))))
set_option maxRecDepth 100000 in
theorem zd31_0 : (List.range' 0 58).all (fun pc => match zI31 pc with | some q => decide (decode (zCode 31) pc = .ok q) | none => true) = true := by decide +kernel
theorem zJ31 {pc : Nat} {q : Jvm.ClassFile.Instr × Nat} (h : zI31 pc = some q) : decode (zCode 31) pc = .ok q := by
  have hb := (z_gd (n := 58) (pc := pc) h).1
  exact z_ck zd31_0 (by omega) (by omega) h
def zI32 (pc : Nat) : Option (Jvm.ClassFile.Instr × Nat) := cond (Nat.ble 113 pc) none (cond (Nat.ble pc 51) (cond (Nat.ble pc 23) (cond (Nat.ble pc 10) (cond (Nat.ble pc 2) (cond (Nat.ble pc 0) (cond (Nat.beq pc 0) (some (.iconst 0, 1)) none) (cond (Nat.ble pc 1) (cond (Nat.beq pc 1) (some (.istore_n 1, 1)) none) (cond (Nat.beq pc 2) (some (.iload_n 1, 1)) none))) (cond (Nat.ble pc 4) (cond (Nat.ble pc 3) (cond (Nat.beq pc 3) (some (.aload_n 0, 1)) none) (cond (Nat.beq pc 4) (some (.getfield 44, 3)) none)) (cond (Nat.ble pc 7) (cond (Nat.beq pc 7) (some (.if_icmp .ge 105, 3)) none) (cond (Nat.beq pc 10) (some (.iload_n 1, 1)) none)))) (cond (Nat.ble pc 15) (cond (Nat.ble pc 11) (cond (Nat.beq pc 11) (some (.aload_n 0, 1)) none) (cond (Nat.ble pc 12) (cond (Nat.beq pc 12) (some (.getfield 27, 3)) none) (cond (Nat.beq pc 15) (some (.arraylength, 1)) none))) (cond (Nat.ble pc 19) (cond (Nat.ble pc 16) (cond (Nat.beq pc 16) (some (.if_icmp .ge 96, 3)) none) (cond (Nat.beq pc 19) (some (.aload_n 0, 1)) none)) (cond (Nat.ble pc 20) (cond (Nat.beq pc 20) (some (.getfield 82, 3)) none) (cond (Nat.beq pc 23) (some (.ifCond .ne 89, 3)) none))))) (cond (Nat.ble pc 34) (cond (Nat.ble pc 30) (cond (Nat.ble pc 26) (cond (Nat.beq pc 26) (some (.aload_n 0, 1)) none) (cond (Nat.ble pc 27) (cond (Nat.beq pc 27) (some (.getfield 27, 3)) none) (cond (Nat.beq pc 30) (some (.iload_n 1, 1)) none))) (cond (Nat.ble pc 32) (cond (Nat.ble pc 31) (cond (Nat.beq pc 31) (some (.aaload, 1)) none) (cond (Nat.beq pc 32) (some (.astore_n 2, 1)) none)) (cond (Nat.ble pc 33) (cond (Nat.beq pc 33) (some (.aload_n 2, 1)) none) (cond (Nat.beq pc 34) (some (.ifnull 72, 3)) none)))) (cond (Nat.ble pc 43) (cond (Nat.ble pc 38) (cond (Nat.ble pc 37) (cond (Nat.beq pc 37) (some (.aload_n 2, 1)) none) (cond (Nat.beq pc 38) (some (.getfield 86, 3)) none)) (cond (Nat.ble pc 41) (cond (Nat.beq pc 41) (some (.bipush 18, 2)) none) (cond (Nat.beq pc 43) (some (.if_icmp .ne 63, 3)) none))) (cond (Nat.ble pc 47) (cond (Nat.ble pc 46) (cond (Nat.beq pc 46) (some (.aload_n 2, 1)) none) (cond (Nat.beq pc 47) (some (.getfield 89, 3)) none)) (cond (Nat.ble pc 50) (cond (Nat.beq pc 50) (some (.iconst 1, 1)) none) (cond (Nat.beq pc 51) (some (.if_icmp .eq 6, 3)) none)))))) (cond (Nat.ble pc 81) (cond (Nat.ble pc 66) (cond (Nat.ble pc 58) (cond (Nat.ble pc 54) (cond (Nat.beq pc 54) (some (.goto 52, 3)) none) (cond (Nat.ble pc 57) (cond (Nat.beq pc 57) (some (.aload_n 0, 1)) none) (cond (Nat.beq pc 58) (some (.aload_n 2, 1)) none))) (cond (Nat.ble pc 62) (cond (Nat.ble pc 59) (cond (Nat.beq pc 59) (some (.getfield 92, 3)) none) (cond (Nat.beq pc 62) (some (.invokevirtual 95, 3)) none)) (cond (Nat.ble pc 65) (cond (Nat.beq pc 65) (some (.lconst 0, 1)) none) (cond (Nat.beq pc 66) (some (.lcmp, 1)) none)))) (cond (Nat.ble pc 71) (cond (Nat.ble pc 67) (cond (Nat.beq pc 67) (some (.ifCond .ne 39, 3)) none) (cond (Nat.ble pc 70) (cond (Nat.beq pc 70) (some (.aload_n 0, 1)) none) (cond (Nat.beq pc 71) (some (.getfield 82, 3)) none))) (cond (Nat.ble pc 77) (cond (Nat.ble pc 74) (cond (Nat.beq pc 74) (some (.ifCond .ne 32, 3)) none) (cond (Nat.beq pc 77) (some (.aload_n 0, 1)) none)) (cond (Nat.ble pc 78) (cond (Nat.beq pc 78) (some (.getfield 21, 3)) none) (cond (Nat.beq pc 81) (some (.aload_n 0, 1)) none))))) (cond (Nat.ble pc 94) (cond (Nat.ble pc 86) (cond (Nat.ble pc 82) (cond (Nat.beq pc 82) (some (.getfield 41, 3)) none) (cond (Nat.ble pc 85) (cond (Nat.beq pc 85) (some (.aload_n 2, 1)) none) (cond (Nat.beq pc 86) (some (.getfield 99, 3)) none))) (cond (Nat.ble pc 90) (cond (Nat.ble pc 89) (cond (Nat.beq pc 89) (some (.iconst 3, 1)) none) (cond (Nat.beq pc 90) (some (.invokevirtual 102, 3)) none)) (cond (Nat.ble pc 93) (cond (Nat.beq pc 93) (some (.aload_n 0, 1)) none) (cond (Nat.beq pc 94) (some (.aload_n 2, 1)) none)))) (cond (Nat.ble pc 102) (cond (Nat.ble pc 98) (cond (Nat.ble pc 95) (cond (Nat.beq pc 95) (some (.getfield 66, 3)) none) (cond (Nat.beq pc 98) (some (.invokevirtual 106, 3)) none)) (cond (Nat.ble pc 101) (cond (Nat.beq pc 101) (some (.aload_n 2, 1)) none) (cond (Nat.beq pc 102) (some (.iconst 2, 1)) none))) (cond (Nat.ble pc 106) (cond (Nat.ble pc 103) (cond (Nat.beq pc 103) (some (.putfield 89, 3)) none) (cond (Nat.beq pc 106) (some (.iinc 1 1, 3)) none)) (cond (Nat.ble pc 109) (cond (Nat.beq pc 109) (some (.goto (-107), 3)) none) (cond (Nat.beq pc 112) (some (.return_, 1)) none)))))))
set_option maxRecDepth 100000 in
theorem zd32_0 : (List.range' 0 77).all (fun pc => match zI32 pc with | some q => decide (decode (zCode 32) pc = .ok q) | none => true) = true := by decide +kernel
set_option maxRecDepth 100000 in
theorem zd32_1 : (List.range' 77 36).all (fun pc => match zI32 pc with | some q => decide (decode (zCode 32) pc = .ok q) | none => true) = true := by decide +kernel
theorem zJ32 {pc : Nat} {q : Jvm.ClassFile.Instr × Nat} (h : zI32 pc = some q) : decode (zCode 32) pc = .ok q := by
  have hb := (z_gd (n := 113) (pc := pc) h).1
  by_cases c0 : pc < 77
  · exact z_ck zd32_0 (by omega) (by omega) h
  exact z_ck zd32_1 (by omega) (by omega) h
def zI33 (pc : Nat) : Option (Jvm.ClassFile.Instr × Nat) := cond (Nat.ble 237 pc) none (cond (Nat.ble pc 157) (cond (Nat.ble pc 75) (cond (Nat.ble pc 49) (cond (Nat.ble pc 11) (cond (Nat.ble pc 4) (cond (Nat.ble pc 0) (cond (Nat.beq pc 0) (some (.aload_n 1, 1)) none) (cond (Nat.ble pc 1) (cond (Nat.beq pc 1) (some (.ifnull 10, 3)) none) (cond (Nat.beq pc 4) (some (.aload_n 0, 1)) none))) (cond (Nat.ble pc 5) (cond (Nat.beq pc 5) (some (.getfield 82, 3)) none) (cond (Nat.ble pc 8) (cond (Nat.beq pc 8) (some (.ifCond .eq 5, 3)) none) (cond (Nat.beq pc 11) (some (.lconst 0, 1)) none)))) (cond (Nat.ble pc 14) (cond (Nat.ble pc 12) (cond (Nat.beq pc 12) (some (.lreturn, 1)) none) (cond (Nat.ble pc 13) (cond (Nat.beq pc 13) (some (.aload_n 1, 1)) none) (cond (Nat.beq pc 14) (some (.getfield 192, 3)) none))) (cond (Nat.ble pc 17) (cond (Nat.beq pc 17) (some (.tableswitch 72 30 33 #[31, 36, 51, 66], 31)) none) (cond (Nat.ble pc 48) (cond (Nat.beq pc 48) (some (.aload_n 1, 1)) none) (cond (Nat.beq pc 49) (some (.getfield 193, 3)) none))))) (cond (Nat.ble pc 61) (cond (Nat.ble pc 54) (cond (Nat.ble pc 52) (cond (Nat.beq pc 52) (some (.lreturn, 1)) none) (cond (Nat.ble pc 53) (cond (Nat.beq pc 53) (some (.aload_n 0, 1)) none) (cond (Nat.beq pc 54) (some (.getfield 12, 3)) none))) (cond (Nat.ble pc 57) (cond (Nat.beq pc 57) (some (.getfield 196, 3)) none) (cond (Nat.ble pc 60) (cond (Nat.beq pc 60) (some (.aload_n 1, 1)) none) (cond (Nat.beq pc 61) (some (.getfield 199, 3)) none)))) (cond (Nat.ble pc 68) (cond (Nat.ble pc 64) (cond (Nat.beq pc 64) (some (.invokestatic 147, 3)) none) (cond (Nat.ble pc 67) (cond (Nat.beq pc 67) (some (.lreturn, 1)) none) (cond (Nat.beq pc 68) (some (.aload_n 0, 1)) none))) (cond (Nat.ble pc 69) (cond (Nat.beq pc 69) (some (.getfield 12, 3)) none) (cond (Nat.ble pc 72) (cond (Nat.beq pc 72) (some (.getfield 144, 3)) none) (cond (Nat.beq pc 75) (some (.aload_n 1, 1)) none)))))) (cond (Nat.ble pc 97) (cond (Nat.ble pc 87) (cond (Nat.ble pc 82) (cond (Nat.ble pc 76) (cond (Nat.beq pc 76) (some (.getfield 199, 3)) none) (cond (Nat.ble pc 79) (cond (Nat.beq pc 79) (some (.invokestatic 147, 3)) none) (cond (Nat.beq pc 82) (some (.lreturn, 1)) none))) (cond (Nat.ble pc 83) (cond (Nat.beq pc 83) (some (.aload_n 0, 1)) none) (cond (Nat.ble pc 84) (cond (Nat.beq pc 84) (some (.getfield 41, 3)) none) (cond (Nat.beq pc 87) (some (.i2l, 1)) none)))) (cond (Nat.ble pc 90) (cond (Nat.ble pc 88) (cond (Nat.beq pc 88) (some (.lreturn, 1)) none) (cond (Nat.ble pc 89) (cond (Nat.beq pc 89) (some (.aload_n 0, 1)) none) (cond (Nat.beq pc 90) (some (.aload_n 1, 1)) none))) (cond (Nat.ble pc 91) (cond (Nat.beq pc 91) (some (.getfield 200, 3)) none) (cond (Nat.ble pc 94) (cond (Nat.beq pc 94) (some (.invokevirtual 95, 3)) none) (cond (Nat.beq pc 97) (some (.lstore_n 2, 1)) none))))) (cond (Nat.ble pc 108) (cond (Nat.ble pc 100) (cond (Nat.ble pc 98) (cond (Nat.beq pc 98) (some (.aload_n 0, 1)) none) (cond (Nat.ble pc 99) (cond (Nat.beq pc 99) (some (.aload_n 1, 1)) none) (cond (Nat.beq pc 100) (some (.getfield 201, 3)) none))) (cond (Nat.ble pc 103) (cond (Nat.beq pc 103) (some (.invokevirtual 95, 3)) none) (cond (Nat.ble pc 106) (cond (Nat.beq pc 106) (some (.lstore 4, 2)) none) (cond (Nat.beq pc 108) (some (.aload_n 1, 1)) none)))) (cond (Nat.ble pc 152) (cond (Nat.ble pc 109) (cond (Nat.beq pc 109) (some (.getfield 192, 3)) none) (cond (Nat.ble pc 112) (cond (Nat.beq pc 112) (some (.tableswitch 123 0 5 #[40, 45, 50, 55, 97, 110], 40)) none) (cond (Nat.beq pc 152) (some (.lload_n 2, 1)) none))) (cond (Nat.ble pc 155) (cond (Nat.ble pc 153) (cond (Nat.beq pc 153) (some (.lload 4, 2)) none) (cond (Nat.beq pc 155) (some (.ladd, 1)) none)) (cond (Nat.ble pc 156) (cond (Nat.beq pc 156) (some (.lreturn, 1)) none) (cond (Nat.beq pc 157) (some (.lload_n 2, 1)) none))))))) (cond (Nat.ble pc 195) (cond (Nat.ble pc 174) (cond (Nat.ble pc 165) (cond (Nat.ble pc 161) (cond (Nat.ble pc 158) (cond (Nat.beq pc 158) (some (.lload 4, 2)) none) (cond (Nat.ble pc 160) (cond (Nat.beq pc 160) (some (.lsub, 1)) none) (cond (Nat.beq pc 161) (some (.lreturn, 1)) none))) (cond (Nat.ble pc 162) (cond (Nat.beq pc 162) (some (.lload_n 2, 1)) none) (cond (Nat.ble pc 163) (cond (Nat.beq pc 163) (some (.lload 4, 2)) none) (cond (Nat.beq pc 165) (some (.lmul, 1)) none)))) (cond (Nat.ble pc 169) (cond (Nat.ble pc 166) (cond (Nat.beq pc 166) (some (.lreturn, 1)) none) (cond (Nat.ble pc 167) (cond (Nat.beq pc 167) (some (.lload 4, 2)) none) (cond (Nat.beq pc 169) (some (.lconst 0, 1)) none))) (cond (Nat.ble pc 170) (cond (Nat.beq pc 170) (some (.lcmp, 1)) none) (cond (Nat.ble pc 171) (cond (Nat.beq pc 171) (some (.ifCond .eq 8, 3)) none) (cond (Nat.beq pc 174) (some (.lload_n 2, 1)) none))))) (cond (Nat.ble pc 183) (cond (Nat.ble pc 178) (cond (Nat.ble pc 175) (cond (Nat.beq pc 175) (some (.lload 4, 2)) none) (cond (Nat.ble pc 177) (cond (Nat.beq pc 177) (some (.ldiv, 1)) none) (cond (Nat.beq pc 178) (some (.lreturn, 1)) none))) (cond (Nat.ble pc 179) (cond (Nat.beq pc 179) (some (.aload_n 0, 1)) none) (cond (Nat.ble pc 180) (cond (Nat.beq pc 180) (some (.getfield 82, 3)) none) (cond (Nat.beq pc 183) (some (.ifCond .ne 24, 3)) none)))) (cond (Nat.ble pc 190) (cond (Nat.ble pc 186) (cond (Nat.beq pc 186) (some (.aload_n 0, 1)) none) (cond (Nat.ble pc 187) (cond (Nat.beq pc 187) (some (.getfield 21, 3)) none) (cond (Nat.beq pc 190) (some (.aload_n 0, 1)) none))) (cond (Nat.ble pc 191) (cond (Nat.beq pc 191) (some (.getfield 41, 3)) none) (cond (Nat.ble pc 194) (cond (Nat.beq pc 194) (some (.aload_n 1, 1)) none) (cond (Nat.beq pc 195) (some (.getfield 202, 3)) none)))))) (cond (Nat.ble pc 216) (cond (Nat.ble pc 207) (cond (Nat.ble pc 202) (cond (Nat.ble pc 198) (cond (Nat.beq pc 198) (some (.iconst 1, 1)) none) (cond (Nat.ble pc 199) (cond (Nat.beq pc 199) (some (.invokevirtual 102, 3)) none) (cond (Nat.beq pc 202) (some (.aload_n 0, 1)) none))) (cond (Nat.ble pc 203) (cond (Nat.beq pc 203) (some (.iconst 1, 1)) none) (cond (Nat.ble pc 204) (cond (Nat.beq pc 204) (some (.putfield 82, 3)) none) (cond (Nat.beq pc 207) (some (.lconst 0, 1)) none)))) (cond (Nat.ble pc 210) (cond (Nat.ble pc 208) (cond (Nat.beq pc 208) (some (.lreturn, 1)) none) (cond (Nat.ble pc 209) (cond (Nat.beq pc 209) (some (.lload_n 2, 1)) none) (cond (Nat.beq pc 210) (some (.lload 4, 2)) none))) (cond (Nat.ble pc 212) (cond (Nat.beq pc 212) (some (.lcmp, 1)) none) (cond (Nat.ble pc 213) (cond (Nat.beq pc 213) (some (.ifCond .ge 7, 3)) none) (cond (Nat.beq pc 216) (some (.lconst 1, 1)) none))))) (cond (Nat.ble pc 225) (cond (Nat.ble pc 221) (cond (Nat.ble pc 217) (cond (Nat.beq pc 217) (some (.goto 4, 3)) none) (cond (Nat.ble pc 220) (cond (Nat.beq pc 220) (some (.lconst 0, 1)) none) (cond (Nat.beq pc 221) (some (.lreturn, 1)) none))) (cond (Nat.ble pc 222) (cond (Nat.beq pc 222) (some (.lload_n 2, 1)) none) (cond (Nat.ble pc 223) (cond (Nat.beq pc 223) (some (.lload 4, 2)) none) (cond (Nat.beq pc 225) (some (.lcmp, 1)) none)))) (cond (Nat.ble pc 230) (cond (Nat.ble pc 226) (cond (Nat.beq pc 226) (some (.ifCond .ne 7, 3)) none) (cond (Nat.ble pc 229) (cond (Nat.beq pc 229) (some (.lconst 1, 1)) none) (cond (Nat.beq pc 230) (some (.goto 4, 3)) none))) (cond (Nat.ble pc 234) (cond (Nat.ble pc 233) (cond (Nat.beq pc 233) (some (.lconst 0, 1)) none) (cond (Nat.beq pc 234) (some (.lreturn, 1)) none)) (cond (Nat.ble pc 235) (cond (Nat.beq pc 235) (some (.lconst 0, 1)) none) (cond (Nat.beq pc 236) (some (.lreturn, 1)) none))))))))
set_option maxRecDepth 100000 in
theorem zd33_0 : (List.range' 0 106).all (fun pc => match zI33 pc with | some q => decide (decode (zCode 33) pc = .ok q) | none => true) = true := by decide +kernel
set_option maxRecDepth 100000 in
theorem zd33_1 : (List.range' 106 103).all (fun pc => match zI33 pc with | some q => decide (decode (zCode 33) pc = .ok q) | none => true) = true := by decide +kernel
set_option maxRecDepth 100000 in
theorem zd33_2 : (List.range' 209 28).all (fun pc => match zI33 pc with | some q => decide (decode (zCode 33) pc = .ok q) | none => true) = true := by decide +kernel
theorem zJ33 {pc : Nat} {q : Jvm.ClassFile.Instr × Nat} (h : zI33 pc = some q) : decode (zCode 33) pc = .ok q := by
  have hb := (z_gd (n := 237) (pc := pc) h).1
  by_cases c0 : pc < 106
  · exact z_ck zd33_0 (by omega) (by omega) h
  by_cases c1 : pc < 209
  · exact z_ck zd33_1 (by omega) (by omega) h
  exact z_ck zd33_2 (by omega) (by omega) h
end
section
/-! decoded code, by program (wip/whole/gen2.py) -/
def zI34 (pc : Nat) : Option (Jvm.ClassFile.Instr × Nat) := cond (Nat.ble 18 pc) none (cond (Nat.ble pc 7) (cond (Nat.ble pc 4) (cond (Nat.ble pc 0) (cond (Nat.beq pc 0) (some (.iload_n 1, 1)) none) (cond (Nat.ble pc 1) (cond (Nat.beq pc 1) (some (.ifCond .lt 15, 3)) none) (cond (Nat.beq pc 4) (some (.iload_n 1, 1)) none))) (cond (Nat.ble pc 5) (cond (Nat.beq pc 5) (some (.aload_n 0, 1)) none) (cond (Nat.ble pc 6) (cond (Nat.beq pc 6) (some (.arraylength, 1)) none) (cond (Nat.beq pc 7) (some (.if_icmp .ge 9, 3)) none)))) (cond (Nat.ble pc 12) (cond (Nat.ble pc 10) (cond (Nat.beq pc 10) (some (.aload_n 0, 1)) none) (cond (Nat.ble pc 11) (cond (Nat.beq pc 11) (some (.iload_n 1, 1)) none) (cond (Nat.beq pc 12) (some (.laload, 1)) none))) (cond (Nat.ble pc 13) (cond (Nat.beq pc 13) (some (.goto 4, 3)) none) (cond (Nat.ble pc 16) (cond (Nat.beq pc 16) (some (.lconst 0, 1)) none) (cond (Nat.beq pc 17) (some (.lreturn, 1)) none)))))
set_option maxRecDepth 100000 in
theorem zd34_0 : (List.range' 0 18).all (fun pc => match zI34 pc with | some q => decide (decode (zCode 34) pc = .ok q) | none => true) = true := by decide +kernel
theorem zJ34 {pc : Nat} {q : Jvm.ClassFile.Instr × Nat} (h : zI34 pc = some q) : decode (zCode 34) pc = .ok q := by
  have hb := (z_gd (n := 18) (pc := pc) h).1
  exact z_ck zd34_0 (by omega) (by omega) h
def zI35 (pc : Nat) : Option (Jvm.ClassFile.Instr × Nat) := cond (Nat.ble 59 pc) none (cond (Nat.ble pc 29) (cond (Nat.ble pc 17) (cond (Nat.ble pc 7) (cond (Nat.ble pc 1) (cond (Nat.ble pc 0) (cond (Nat.beq pc 0) (some (.aload_n 0, 1)) none) (cond (Nat.beq pc 1) (some (.getfield 24, 3)) none)) (cond (Nat.ble pc 4) (cond (Nat.beq pc 4) (some (.ifCond .lt 13, 3)) none) (cond (Nat.beq pc 7) (some (.aload_n 0, 1)) none))) (cond (Nat.ble pc 11) (cond (Nat.ble pc 8) (cond (Nat.beq pc 8) (some (.getfield 24, 3)) none) (cond (Nat.beq pc 11) (some (.sipush 200, 3)) none)) (cond (Nat.ble pc 14) (cond (Nat.beq pc 14) (some (.if_icmp .lt 4, 3)) none) (cond (Nat.beq pc 17) (some (.return_, 1)) none)))) (cond (Nat.ble pc 23) (cond (Nat.ble pc 19) (cond (Nat.ble pc 18) (cond (Nat.beq pc 18) (some (.aload_n 0, 1)) none) (cond (Nat.beq pc 19) (some (.getfield 9, 3)) none)) (cond (Nat.ble pc 22) (cond (Nat.beq pc 22) (some (.aload_n 0, 1)) none) (cond (Nat.beq pc 23) (some (.getfield 24, 3)) none))) (cond (Nat.ble pc 27) (cond (Nat.ble pc 26) (cond (Nat.beq pc 26) (some (.iload_n 1, 1)) none) (cond (Nat.beq pc 27) (some (.iastore, 1)) none)) (cond (Nat.ble pc 28) (cond (Nat.beq pc 28) (some (.aload_n 0, 1)) none) (cond (Nat.beq pc 29) (some (.getfield 15, 3)) none))))) (cond (Nat.ble pc 43) (cond (Nat.ble pc 37) (cond (Nat.ble pc 33) (cond (Nat.ble pc 32) (cond (Nat.beq pc 32) (some (.aload_n 0, 1)) none) (cond (Nat.beq pc 33) (some (.getfield 24, 3)) none)) (cond (Nat.ble pc 36) (cond (Nat.beq pc 36) (some (.iload_n 2, 1)) none) (cond (Nat.beq pc 37) (some (.iastore, 1)) none))) (cond (Nat.ble pc 39) (cond (Nat.ble pc 38) (cond (Nat.beq pc 38) (some (.aload_n 0, 1)) none) (cond (Nat.beq pc 39) (some (.getfield 18, 3)) none)) (cond (Nat.ble pc 42) (cond (Nat.beq pc 42) (some (.aload_n 0, 1)) none) (cond (Nat.beq pc 43) (some (.getfield 24, 3)) none)))) (cond (Nat.ble pc 49) (cond (Nat.ble pc 47) (cond (Nat.ble pc 46) (cond (Nat.beq pc 46) (some (.iload_n 3, 1)) none) (cond (Nat.beq pc 47) (some (.iastore, 1)) none)) (cond (Nat.ble pc 48) (cond (Nat.beq pc 48) (some (.aload_n 0, 1)) none) (cond (Nat.beq pc 49) (some (.dup, 1)) none))) (cond (Nat.ble pc 53) (cond (Nat.ble pc 50) (cond (Nat.beq pc 50) (some (.getfield 24, 3)) none) (cond (Nat.beq pc 53) (some (.iconst 1, 1)) none)) (cond (Nat.ble pc 54) (cond (Nat.beq pc 54) (some (.iadd, 1)) none) (cond (Nat.ble pc 55) (cond (Nat.beq pc 55) (some (.putfield 24, 3)) none) (cond (Nat.beq pc 58) (some (.return_, 1)) none)))))))
set_option maxRecDepth 100000 in
theorem zd35_0 : (List.range' 0 59).all (fun pc => match zI35 pc with | some q => decide (decode (zCode 35) pc = .ok q) | none => true) = true := by decide +kernel
theorem zJ35 {pc : Nat} {q : Jvm.ClassFile.Instr × Nat} (h : zI35 pc = some q) : decode (zCode 35) pc = .ok q := by
  have hb := (z_gd (n := 59) (pc := pc) h).1
  exact z_ck zd35_0 (by omega) (by omega) h
def zI36 (pc : Nat) : Option (Jvm.ClassFile.Instr × Nat) := cond (Nat.ble 81 pc) none (cond (Nat.ble pc 39) (cond (Nat.ble pc 17) (cond (Nat.ble pc 8) (cond (Nat.ble pc 1) (cond (Nat.ble pc 0) (cond (Nat.beq pc 0) (some (.aload_n 1, 1)) none) (cond (Nat.beq pc 1) (some (.ifnull 10, 3)) none)) (cond (Nat.ble pc 4) (cond (Nat.beq pc 4) (some (.aload_n 1, 1)) none) (cond (Nat.ble pc 5) (cond (Nat.beq pc 5) (some (.invokevirtual 188, 3)) none) (cond (Nat.beq pc 8) (some (.ifCond .ne 4, 3)) none)))) (cond (Nat.ble pc 12) (cond (Nat.ble pc 11) (cond (Nat.beq pc 11) (some (.return_, 1)) none) (cond (Nat.beq pc 12) (some (.aload_n 0, 1)) none)) (cond (Nat.ble pc 13) (cond (Nat.beq pc 13) (some (.aload_n 1, 1)) none) (cond (Nat.ble pc 14) (cond (Nat.beq pc 14) (some (.getfield 66, 3)) none) (cond (Nat.beq pc 17) (some (.invokevirtual 106, 3)) none))))) (cond (Nat.ble pc 29) (cond (Nat.ble pc 21) (cond (Nat.ble pc 20) (cond (Nat.beq pc 20) (some (.aload_n 1, 1)) none) (cond (Nat.beq pc 21) (some (.getfield 86, 3)) none)) (cond (Nat.ble pc 24) (cond (Nat.beq pc 24) (some (.bipush 21, 2)) none) (cond (Nat.ble pc 26) (cond (Nat.beq pc 26) (some (.if_icmp .ne 41, 3)) none) (cond (Nat.beq pc 29) (some (.aload_n 0, 1)) none)))) (cond (Nat.ble pc 34) (cond (Nat.ble pc 30) (cond (Nat.beq pc 30) (some (.iconst 1, 1)) none) (cond (Nat.ble pc 31) (cond (Nat.beq pc 31) (some (.putfield 116, 3)) none) (cond (Nat.beq pc 34) (some (.aload_n 0, 1)) none))) (cond (Nat.ble pc 35) (cond (Nat.beq pc 35) (some (.aload_n 1, 1)) none) (cond (Nat.ble pc 36) (cond (Nat.beq pc 36) (some (.getfield 70, 3)) none) (cond (Nat.beq pc 39) (some (.invokevirtual 78, 3)) none)))))) (cond (Nat.ble pc 57) (cond (Nat.ble pc 48) (cond (Nat.ble pc 43) (cond (Nat.ble pc 42) (cond (Nat.beq pc 42) (some (.pop, 1)) none) (cond (Nat.beq pc 43) (some (.aload_n 0, 1)) none)) (cond (Nat.ble pc 44) (cond (Nat.beq pc 44) (some (.iconst 0, 1)) none) (cond (Nat.ble pc 45) (cond (Nat.beq pc 45) (some (.putfield 116, 3)) none) (cond (Nat.beq pc 48) (some (.aload_n 0, 1)) none)))) (cond (Nat.ble pc 50) (cond (Nat.ble pc 49) (cond (Nat.beq pc 49) (some (.iconst 0, 1)) none) (cond (Nat.beq pc 50) (some (.putfield 82, 3)) none)) (cond (Nat.ble pc 53) (cond (Nat.beq pc 53) (some (.aload_n 0, 1)) none) (cond (Nat.ble pc 54) (cond (Nat.beq pc 54) (some (.getfield 21, 3)) none) (cond (Nat.beq pc 57) (some (.aload_n 1, 1)) none))))) (cond (Nat.ble pc 68) (cond (Nat.ble pc 61) (cond (Nat.ble pc 58) (cond (Nat.beq pc 58) (some (.getfield 99, 3)) none) (cond (Nat.beq pc 61) (some (.invokevirtual 181, 3)) none)) (cond (Nat.ble pc 64) (cond (Nat.beq pc 64) (some (.goto 11, 3)) none) (cond (Nat.ble pc 67) (cond (Nat.beq pc 67) (some (.aload_n 0, 1)) none) (cond (Nat.beq pc 68) (some (.aload_n 1, 1)) none)))) (cond (Nat.ble pc 75) (cond (Nat.ble pc 69) (cond (Nat.beq pc 69) (some (.getfield 70, 3)) none) (cond (Nat.ble pc 72) (cond (Nat.beq pc 72) (some (.invokevirtual 106, 3)) none) (cond (Nat.beq pc 75) (some (.aload_n 1, 1)) none))) (cond (Nat.ble pc 76) (cond (Nat.beq pc 76) (some (.iconst 3, 1)) none) (cond (Nat.ble pc 77) (cond (Nat.beq pc 77) (some (.putfield 89, 3)) none) (cond (Nat.beq pc 80) (some (.return_, 1)) none)))))))
set_option maxRecDepth 100000 in
theorem zd36_0 : (List.range' 0 77).all (fun pc => match zI36 pc with | some q => decide (decode (zCode 36) pc = .ok q) | none => true) = true := by decide +kernel
set_option maxRecDepth 100000 in
theorem zd36_1 : (List.range' 77 4).all (fun pc => match zI36 pc with | some q => decide (decode (zCode 36) pc = .ok q) | none => true) = true := by decide +kernel
theorem zJ36 {pc : Nat} {q : Jvm.ClassFile.Instr × Nat} (h : zI36 pc = some q) : decode (zCode 36) pc = .ok q := by
  have hb := (z_gd (n := 81) (pc := pc) h).1
  by_cases c0 : pc < 77
  · exact z_ck zd36_0 (by omega) (by omega) h
  exact z_ck zd36_1 (by omega) (by omega) h
def zI37 (pc : Nat) : Option (Jvm.ClassFile.Instr × Nat) := cond (Nat.ble 22 pc) none (cond (Nat.ble pc 9) (cond (Nat.ble pc 4) (cond (Nat.ble pc 0) (cond (Nat.beq pc 0) (some (.aload_n 0, 1)) none) (cond (Nat.ble pc 1) (cond (Nat.beq pc 1) (some (.getfield 35, 3)) none) (cond (Nat.beq pc 4) (some (.iconst 1, 1)) none))) (cond (Nat.ble pc 5) (cond (Nat.beq pc 5) (some (.if_icmp .eq 11, 3)) none) (cond (Nat.ble pc 8) (cond (Nat.beq pc 8) (some (.aload_n 0, 1)) none) (cond (Nat.beq pc 9) (some (.getfield 35, 3)) none)))) (cond (Nat.ble pc 16) (cond (Nat.ble pc 12) (cond (Nat.beq pc 12) (some (.iconst 2, 1)) none) (cond (Nat.ble pc 13) (cond (Nat.beq pc 13) (some (.if_icmp .ne 7, 3)) none) (cond (Nat.beq pc 16) (some (.iconst 1, 1)) none))) (cond (Nat.ble pc 17) (cond (Nat.beq pc 17) (some (.goto 4, 3)) none) (cond (Nat.ble pc 20) (cond (Nat.beq pc 20) (some (.iconst 0, 1)) none) (cond (Nat.beq pc 21) (some (.ireturn, 1)) none)))))
set_option maxRecDepth 100000 in
theorem zd37_0 : (List.range' 0 22).all (fun pc => match zI37 pc with | some q => decide (decode (zCode 37) pc = .ok q) | none => true) = true := by decide +kernel
theorem zJ37 {pc : Nat} {q : Jvm.ClassFile.Instr × Nat} (h : zI37 pc = some q) : decode (zCode 37) pc = .ok q := by
  have hb := (z_gd (n := 22) (pc := pc) h).1
  exact z_ck zd37_0 (by omega) (by omega) h
def zI38 (pc : Nat) : Option (Jvm.ClassFile.Instr × Nat) := cond (Nat.ble 57 pc) none (cond (Nat.ble pc 27) (cond (Nat.ble pc 13) (cond (Nat.ble pc 7) (cond (Nat.ble pc 1) (cond (Nat.ble pc 0) (cond (Nat.beq pc 0) (some (.aload_n 0, 1)) none) (cond (Nat.beq pc 1) (some (.getfield 82, 3)) none)) (cond (Nat.ble pc 4) (cond (Nat.beq pc 4) (some (.ifCond .eq 5, 3)) none) (cond (Nat.beq pc 7) (some (.iconst 0, 1)) none))) (cond (Nat.ble pc 9) (cond (Nat.ble pc 8) (cond (Nat.beq pc 8) (some (.ireturn, 1)) none) (cond (Nat.beq pc 9) (some (.aload_n 1, 1)) none)) (cond (Nat.ble pc 10) (cond (Nat.beq pc 10) (some (.ifnull 11, 3)) none) (cond (Nat.beq pc 13) (some (.aload_n 1, 1)) none)))) (cond (Nat.ble pc 21) (cond (Nat.ble pc 17) (cond (Nat.ble pc 14) (cond (Nat.beq pc 14) (some (.getfield 89, 3)) none) (cond (Nat.beq pc 17) (some (.iconst 3, 1)) none)) (cond (Nat.ble pc 18) (cond (Nat.beq pc 18) (some (.if_icmp .ne 5, 3)) none) (cond (Nat.beq pc 21) (some (.iconst 1, 1)) none))) (cond (Nat.ble pc 23) (cond (Nat.ble pc 22) (cond (Nat.beq pc 22) (some (.ireturn, 1)) none) (cond (Nat.beq pc 23) (some (.aload_n 1, 1)) none)) (cond (Nat.ble pc 24) (cond (Nat.beq pc 24) (some (.getfield 89, 3)) none) (cond (Nat.beq pc 27) (some (.ifCond .ne 13, 3)) none))))) (cond (Nat.ble pc 41) (cond (Nat.ble pc 35) (cond (Nat.ble pc 31) (cond (Nat.ble pc 30) (cond (Nat.beq pc 30) (some (.aload_n 0, 1)) none) (cond (Nat.beq pc 31) (some (.aload_n 1, 1)) none)) (cond (Nat.ble pc 32) (cond (Nat.beq pc 32) (some (.invokevirtual 110, 3)) none) (cond (Nat.beq pc 35) (some (.ifCond .ne 5, 3)) none))) (cond (Nat.ble pc 39) (cond (Nat.ble pc 38) (cond (Nat.beq pc 38) (some (.iconst 0, 1)) none) (cond (Nat.beq pc 39) (some (.ireturn, 1)) none)) (cond (Nat.ble pc 40) (cond (Nat.beq pc 40) (some (.aload_n 0, 1)) none) (cond (Nat.beq pc 41) (some (.aload_n 1, 1)) none)))) (cond (Nat.ble pc 49) (cond (Nat.ble pc 45) (cond (Nat.ble pc 42) (cond (Nat.beq pc 42) (some (.invokevirtual 113, 3)) none) (cond (Nat.beq pc 45) (some (.ifCond .ne 5, 3)) none)) (cond (Nat.ble pc 48) (cond (Nat.beq pc 48) (some (.iconst 0, 1)) none) (cond (Nat.beq pc 49) (some (.ireturn, 1)) none))) (cond (Nat.ble pc 51) (cond (Nat.ble pc 50) (cond (Nat.beq pc 50) (some (.aload_n 1, 1)) none) (cond (Nat.beq pc 51) (some (.iconst 3, 1)) none)) (cond (Nat.ble pc 52) (cond (Nat.beq pc 52) (some (.putfield 89, 3)) none) (cond (Nat.ble pc 55) (cond (Nat.beq pc 55) (some (.iconst 1, 1)) none) (cond (Nat.beq pc 56) (some (.ireturn, 1)) none)))))))
set_option maxRecDepth 100000 in
theorem zd38_0 : (List.range' 0 57).all (fun pc => match zI38 pc with | some q => decide (decode (zCode 38) pc = .ok q) | none => true) = true := by decide +kernel
theorem zJ38 {pc : Nat} {q : Jvm.ClassFile.Instr × Nat} (h : zI38 pc = some q) : decode (zCode 38) pc = .ok q := by
  have hb := (z_gd (n := 57) (pc := pc) h).1
  exact z_ck zd38_0 (by omega) (by omega) h
def zI39 (pc : Nat) : Option (Jvm.ClassFile.Instr × Nat) := cond (Nat.ble 103 pc) none (cond (Nat.ble pc 52) (cond (Nat.ble pc 26) (cond (Nat.ble pc 11) (cond (Nat.ble pc 4) (cond (Nat.ble pc 0) (cond (Nat.beq pc 0) (some (.aload_n 0, 1)) none) (cond (Nat.ble pc 1) (cond (Nat.beq pc 1) (some (.getfield 116, 3)) none) (cond (Nat.beq pc 4) (some (.ifCond .ne 36, 3)) none))) (cond (Nat.ble pc 7) (cond (Nat.beq pc 7) (some (.aload_n 0, 1)) none) (cond (Nat.ble pc 8) (cond (Nat.beq pc 8) (some (.getfield 72, 3)) none) (cond (Nat.beq pc 11) (some (.sipush 1000, 3)) none)))) (cond (Nat.ble pc 18) (cond (Nat.ble pc 14) (cond (Nat.beq pc 14) (some (.if_icmp .lt 26, 3)) none) (cond (Nat.ble pc 17) (cond (Nat.beq pc 17) (some (.aload_n 0, 1)) none) (cond (Nat.beq pc 18) (some (.getfield 21, 3)) none))) (cond (Nat.ble pc 22) (cond (Nat.ble pc 21) (cond (Nat.beq pc 21) (some (.aload_n 0, 1)) none) (cond (Nat.beq pc 22) (some (.getfield 41, 3)) none)) (cond (Nat.ble pc 25) (cond (Nat.beq pc 25) (some (.aload_n 1, 1)) none) (cond (Nat.beq pc 26) (some (.getfield 99, 3)) none))))) (cond (Nat.ble pc 39) (cond (Nat.ble pc 33) (cond (Nat.ble pc 29) (cond (Nat.beq pc 29) (some (.iconst 2, 1)) none) (cond (Nat.ble pc 30) (cond (Nat.beq pc 30) (some (.invokevirtual 102, 3)) none) (cond (Nat.beq pc 33) (some (.aload_n 0, 1)) none))) (cond (Nat.ble pc 35) (cond (Nat.ble pc 34) (cond (Nat.beq pc 34) (some (.iconst 1, 1)) none) (cond (Nat.beq pc 35) (some (.putfield 82, 3)) none)) (cond (Nat.ble pc 38) (cond (Nat.beq pc 38) (some (.iconst 0, 1)) none) (cond (Nat.beq pc 39) (some (.ireturn, 1)) none)))) (cond (Nat.ble pc 44) (cond (Nat.ble pc 40) (cond (Nat.beq pc 40) (some (.aload_n 0, 1)) none) (cond (Nat.ble pc 41) (cond (Nat.beq pc 41) (some (.getfield 116, 3)) none) (cond (Nat.beq pc 44) (some (.ifCond .ne 13, 3)) none))) (cond (Nat.ble pc 48) (cond (Nat.ble pc 47) (cond (Nat.beq pc 47) (some (.aload_n 0, 1)) none) (cond (Nat.beq pc 48) (some (.dup, 1)) none)) (cond (Nat.ble pc 49) (cond (Nat.beq pc 49) (some (.getfield 72, 3)) none) (cond (Nat.beq pc 52) (some (.iconst 1, 1)) none)))))) (cond (Nat.ble pc 77) (cond (Nat.ble pc 65) (cond (Nat.ble pc 57) (cond (Nat.ble pc 53) (cond (Nat.beq pc 53) (some (.iadd, 1)) none) (cond (Nat.ble pc 54) (cond (Nat.beq pc 54) (some (.putfield 72, 3)) none) (cond (Nat.beq pc 57) (some (.aload_n 0, 1)) none))) (cond (Nat.ble pc 59) (cond (Nat.ble pc 58) (cond (Nat.beq pc 58) (some (.aload_n 1, 1)) none) (cond (Nat.beq pc 59) (some (.getfield 92, 3)) none)) (cond (Nat.ble pc 62) (cond (Nat.beq pc 62) (some (.invokevirtual 95, 3)) none) (cond (Nat.beq pc 65) (some (.lstore_n 2, 1)) none)))) (cond (Nat.ble pc 68) (cond (Nat.ble pc 66) (cond (Nat.beq pc 66) (some (.aload_n 0, 1)) none) (cond (Nat.ble pc 67) (cond (Nat.beq pc 67) (some (.aload_n 1, 1)) none) (cond (Nat.beq pc 68) (some (.getfield 119, 3)) none))) (cond (Nat.ble pc 74) (cond (Nat.ble pc 71) (cond (Nat.beq pc 71) (some (.invokevirtual 95, 3)) none) (cond (Nat.beq pc 74) (some (.lstore 4, 2)) none)) (cond (Nat.ble pc 76) (cond (Nat.beq pc 76) (some (.aload_n 0, 1)) none) (cond (Nat.beq pc 77) (some (.getfield 82, 3)) none))))) (cond (Nat.ble pc 90) (cond (Nat.ble pc 84) (cond (Nat.ble pc 80) (cond (Nat.beq pc 80) (some (.ifCond .eq 5, 3)) none) (cond (Nat.ble pc 83) (cond (Nat.beq pc 83) (some (.iconst 0, 1)) none) (cond (Nat.beq pc 84) (some (.ireturn, 1)) none))) (cond (Nat.ble pc 86) (cond (Nat.ble pc 85) (cond (Nat.beq pc 85) (some (.aload_n 1, 1)) none) (cond (Nat.beq pc 86) (some (.aload_n 0, 1)) none)) (cond (Nat.ble pc 87) (cond (Nat.beq pc 87) (some (.getfield 41, 3)) none) (cond (Nat.beq pc 90) (some (.lload_n 2, 1)) none)))) (cond (Nat.ble pc 96) (cond (Nat.ble pc 91) (cond (Nat.beq pc 91) (some (.lload 4, 2)) none) (cond (Nat.ble pc 93) (cond (Nat.beq pc 93) (some (.invokevirtual 122, 3)) none) (cond (Nat.beq pc 96) (some (.aload_n 0, 1)) none))) (cond (Nat.ble pc 98) (cond (Nat.ble pc 97) (cond (Nat.beq pc 97) (some (.aload_n 1, 1)) none) (cond (Nat.beq pc 98) (some (.invokevirtual 126, 3)) none)) (cond (Nat.ble pc 101) (cond (Nat.beq pc 101) (some (.iconst 1, 1)) none) (cond (Nat.beq pc 102) (some (.ireturn, 1)) none)))))))
set_option maxRecDepth 100000 in
theorem zd39_0 : (List.range' 0 77).all (fun pc => match zI39 pc with | some q => decide (decode (zCode 39) pc = .ok q) | none => true) = true := by decide +kernel
set_option maxRecDepth 100000 in
theorem zd39_1 : (List.range' 77 26).all (fun pc => match zI39 pc with | some q => decide (decode (zCode 39) pc = .ok q) | none => true) = true := by decide +kernel
theorem zJ39 {pc : Nat} {q : Jvm.ClassFile.Instr × Nat} (h : zI39 pc = some q) : decode (zCode 39) pc = .ok q := by
  have hb := (z_gd (n := 103) (pc := pc) h).1
  by_cases c0 : pc < 77
  · exact z_ck zd39_0 (by omega) (by omega) h
  exact z_ck zd39_1 (by omega) (by omega) h
def zI40 (pc : Nat) : Option (Jvm.ClassFile.Instr × Nat) := cond (Nat.ble 41 pc) none (cond (Nat.ble pc 17) (cond (Nat.ble pc 6) (cond (Nat.ble pc 1) (cond (Nat.ble pc 0) (cond (Nat.beq pc 0) (some (.aload_n 0, 1)) none) (cond (Nat.beq pc 1) (some (.iload_n 1, 1)) none)) (cond (Nat.ble pc 2) (cond (Nat.beq pc 2) (some (.putfield 38, 3)) none) (cond (Nat.ble pc 5) (cond (Nat.beq pc 5) (some (.aload_n 0, 1)) none) (cond (Nat.beq pc 6) (some (.lload_n 2, 1)) none)))) (cond (Nat.ble pc 11) (cond (Nat.ble pc 7) (cond (Nat.beq pc 7) (some (.putfield 41, 3)) none) (cond (Nat.ble pc 10) (cond (Nat.beq pc 10) (some (.aload_n 0, 1)) none) (cond (Nat.beq pc 11) (some (.lload 4, 2)) none))) (cond (Nat.ble pc 13) (cond (Nat.beq pc 13) (some (.putfield 45, 3)) none) (cond (Nat.ble pc 16) (cond (Nat.beq pc 16) (some (.aload_n 0, 1)) none) (cond (Nat.beq pc 17) (some (.iconst 0, 1)) none))))) (cond (Nat.ble pc 26) (cond (Nat.ble pc 21) (cond (Nat.ble pc 18) (cond (Nat.beq pc 18) (some (.putfield 48, 3)) none) (cond (Nat.beq pc 21) (some (.aload_n 0, 1)) none)) (cond (Nat.ble pc 22) (cond (Nat.beq pc 22) (some (.iconst 1, 1)) none) (cond (Nat.ble pc 23) (cond (Nat.beq pc 23) (some (.putfield 35, 3)) none) (cond (Nat.beq pc 26) (some (.aload_n 0, 1)) none)))) (cond (Nat.ble pc 33) (cond (Nat.ble pc 27) (cond (Nat.beq pc 27) (some (.getfield 52, 3)) none) (cond (Nat.ble pc 30) (cond (Nat.beq pc 30) (some (.invokestatic 56, 3)) none) (cond (Nat.beq pc 33) (some (.aload_n 0, 1)) none))) (cond (Nat.ble pc 34) (cond (Nat.beq pc 34) (some (.getfield 60, 3)) none) (cond (Nat.ble pc 37) (cond (Nat.beq pc 37) (some (.invokestatic 56, 3)) none) (cond (Nat.beq pc 40) (some (.return_, 1)) none))))))
set_option maxRecDepth 100000 in
theorem zd40_0 : (List.range' 0 41).all (fun pc => match zI40 pc with | some q => decide (decode (zCode 40) pc = .ok q) | none => true) = true := by decide +kernel
theorem zJ40 {pc : Nat} {q : Jvm.ClassFile.Instr × Nat} (h : zI40 pc = some q) : decode (zCode 40) pc = .ok q := by
  have hb := (z_gd (n := 41) (pc := pc) h).1
  exact z_ck zd40_0 (by omega) (by omega) h
def zI41 (pc : Nat) : Option (Jvm.ClassFile.Instr × Nat) := cond (Nat.ble 10 pc) none (cond (Nat.ble pc 4) (cond (Nat.ble pc 0) (cond (Nat.beq pc 0) (some (.aload_n 0, 1)) none) (cond (Nat.ble pc 1) (cond (Nat.beq pc 1) (some (.ifnull 8, 3)) none) (cond (Nat.beq pc 4) (some (.aload_n 0, 1)) none))) (cond (Nat.ble pc 5) (cond (Nat.beq pc 5) (some (.iconst 0, 1)) none) (cond (Nat.ble pc 6) (cond (Nat.beq pc 6) (some (.putfield 35, 3)) none) (cond (Nat.beq pc 9) (some (.return_, 1)) none))))
set_option maxRecDepth 100000 in
theorem zd41_0 : (List.range' 0 10).all (fun pc => match zI41 pc with | some q => decide (decode (zCode 41) pc = .ok q) | none => true) = true := by decide +kernel
theorem zJ41 {pc : Nat} {q : Jvm.ClassFile.Instr × Nat} (h : zI41 pc = some q) : decode (zCode 41) pc = .ok q := by
  have hb := (z_gd (n := 10) (pc := pc) h).1
  exact z_ck zd41_0 (by omega) (by omega) h
def zI42 (pc : Nat) : Option (Jvm.ClassFile.Instr × Nat) := cond (Nat.ble 176 pc) none (cond (Nat.ble pc 112) (cond (Nat.ble pc 79) (cond (Nat.ble pc 63) (cond (Nat.ble pc 4) (cond (Nat.ble pc 0) (cond (Nat.beq pc 0) (some (.aload_n 1, 1)) none) (cond (Nat.ble pc 1) (cond (Nat.beq pc 1) (some (.getfield 86, 3)) none) (cond (Nat.beq pc 4) (some (.tableswitch 171 11 19 #[52, 74, 171, 171, 171, 117, 171, 138, 96], 52)) none))) (cond (Nat.ble pc 57) (cond (Nat.ble pc 56) (cond (Nat.beq pc 56) (some (.aload_n 0, 1)) none) (cond (Nat.beq pc 57) (some (.getfield 12, 3)) none)) (cond (Nat.ble pc 60) (cond (Nat.beq pc 60) (some (.getfield 129, 3)) none) (cond (Nat.beq pc 63) (some (.aload_n 1, 1)) none)))) (cond (Nat.ble pc 71) (cond (Nat.ble pc 67) (cond (Nat.ble pc 64) (cond (Nat.beq pc 64) (some (.getfield 133, 3)) none) (cond (Nat.beq pc 67) (some (.aload_n 1, 1)) none)) (cond (Nat.ble pc 68) (cond (Nat.beq pc 68) (some (.getfield 136, 3)) none) (cond (Nat.beq pc 71) (some (.invokestatic 140, 3)) none))) (cond (Nat.ble pc 75) (cond (Nat.ble pc 74) (cond (Nat.beq pc 74) (some (.pop, 1)) none) (cond (Nat.beq pc 75) (some (.goto 100, 3)) none)) (cond (Nat.ble pc 78) (cond (Nat.beq pc 78) (some (.aload_n 0, 1)) none) (cond (Nat.beq pc 79) (some (.getfield 12, 3)) none))))) (cond (Nat.ble pc 96) (cond (Nat.ble pc 86) (cond (Nat.ble pc 82) (cond (Nat.beq pc 82) (some (.getfield 144, 3)) none) (cond (Nat.ble pc 85) (cond (Nat.beq pc 85) (some (.aload_n 1, 1)) none) (cond (Nat.beq pc 86) (some (.getfield 133, 3)) none))) (cond (Nat.ble pc 90) (cond (Nat.ble pc 89) (cond (Nat.beq pc 89) (some (.aload_n 1, 1)) none) (cond (Nat.beq pc 90) (some (.getfield 136, 3)) none)) (cond (Nat.ble pc 93) (cond (Nat.beq pc 93) (some (.invokestatic 140, 3)) none) (cond (Nat.beq pc 96) (some (.pop, 1)) none)))) (cond (Nat.ble pc 102) (cond (Nat.ble pc 100) (cond (Nat.ble pc 97) (cond (Nat.beq pc 97) (some (.goto 78, 3)) none) (cond (Nat.beq pc 100) (some (.aload_n 1, 1)) none)) (cond (Nat.ble pc 101) (cond (Nat.beq pc 101) (some (.aload_n 0, 1)) none) (cond (Nat.beq pc 102) (some (.getfield 12, 3)) none))) (cond (Nat.ble pc 108) (cond (Nat.ble pc 105) (cond (Nat.beq pc 105) (some (.getfield 129, 3)) none) (cond (Nat.beq pc 108) (some (.aload_n 1, 1)) none)) (cond (Nat.ble pc 109) (cond (Nat.beq pc 109) (some (.getfield 133, 3)) none) (cond (Nat.beq pc 112) (some (.invokestatic 147, 3)) none)))))) (cond (Nat.ble pc 143) (cond (Nat.ble pc 127) (cond (Nat.ble pc 121) (cond (Nat.ble pc 115) (cond (Nat.beq pc 115) (some (.putfield 151, 3)) none) (cond (Nat.ble pc 118) (cond (Nat.beq pc 118) (some (.goto 57, 3)) none) (cond (Nat.beq pc 121) (some (.aload_n 1, 1)) none))) (cond (Nat.ble pc 123) (cond (Nat.ble pc 122) (cond (Nat.beq pc 122) (some (.aload_n 1, 1)) none) (cond (Nat.beq pc 123) (some (.getfield 136, 3)) none)) (cond (Nat.ble pc 126) (cond (Nat.beq pc 126) (some (.lconst 0, 1)) none) (cond (Nat.beq pc 127) (some (.lcmp, 1)) none)))) (cond (Nat.ble pc 135) (cond (Nat.ble pc 131) (cond (Nat.ble pc 128) (cond (Nat.beq pc 128) (some (.ifCond .eq 7, 3)) none) (cond (Nat.beq pc 131) (some (.iconst 1, 1)) none)) (cond (Nat.ble pc 132) (cond (Nat.beq pc 132) (some (.goto 4, 3)) none) (cond (Nat.beq pc 135) (some (.iconst 2, 1)) none))) (cond (Nat.ble pc 139) (cond (Nat.ble pc 136) (cond (Nat.beq pc 136) (some (.putfield 89, 3)) none) (cond (Nat.beq pc 139) (some (.goto 36, 3)) none)) (cond (Nat.ble pc 142) (cond (Nat.beq pc 142) (some (.aload_n 1, 1)) none) (cond (Nat.beq pc 143) (some (.getfield 136, 3)) none))))) (cond (Nat.ble pc 159) (cond (Nat.ble pc 151) (cond (Nat.ble pc 147) (cond (Nat.ble pc 146) (cond (Nat.beq pc 146) (some (.lconst 0, 1)) none) (cond (Nat.beq pc 147) (some (.lcmp, 1)) none)) (cond (Nat.ble pc 148) (cond (Nat.beq pc 148) (some (.ifCond .ne 27, 3)) none) (cond (Nat.beq pc 151) (some (.aload_n 0, 1)) none))) (cond (Nat.ble pc 155) (cond (Nat.ble pc 152) (cond (Nat.beq pc 152) (some (.getfield 21, 3)) none) (cond (Nat.beq pc 155) (some (.aload_n 0, 1)) none)) (cond (Nat.ble pc 156) (cond (Nat.beq pc 156) (some (.getfield 41, 3)) none) (cond (Nat.beq pc 159) (some (.aload_n 1, 1)) none)))) (cond (Nat.ble pc 167) (cond (Nat.ble pc 163) (cond (Nat.ble pc 160) (cond (Nat.beq pc 160) (some (.getfield 99, 3)) none) (cond (Nat.beq pc 163) (some (.iconst 3, 1)) none)) (cond (Nat.ble pc 164) (cond (Nat.beq pc 164) (some (.invokevirtual 102, 3)) none) (cond (Nat.beq pc 167) (some (.aload_n 1, 1)) none))) (cond (Nat.ble pc 169) (cond (Nat.ble pc 168) (cond (Nat.beq pc 168) (some (.iconst 2, 1)) none) (cond (Nat.beq pc 169) (some (.putfield 89, 3)) none)) (cond (Nat.ble pc 172) (cond (Nat.beq pc 172) (some (.goto 3, 3)) none) (cond (Nat.beq pc 175) (some (.return_, 1)) none)))))))
set_option maxRecDepth 100000 in
theorem zd42_0 : (List.range' 0 135).all (fun pc => match zI42 pc with | some q => decide (decode (zCode 42) pc = .ok q) | none => true) = true := by decide +kernel
set_option maxRecDepth 100000 in
theorem zd42_1 : (List.range' 135 41).all (fun pc => match zI42 pc with | some q => decide (decode (zCode 42) pc = .ok q) | none => true) = true := by decide +kernel
theorem zJ42 {pc : Nat} {q : Jvm.ClassFile.Instr × Nat} (h : zI42 pc = some q) : decode (zCode 42) pc = .ok q := by
  have hb := (z_gd (n := 176) (pc := pc) h).1
  by_cases c0 : pc < 135
  · exact z_ck zd42_0 (by omega) (by omega) h
  exact z_ck zd42_1 (by omega) (by omega) h
def zI43 (pc : Nat) : Option (Jvm.ClassFile.Instr × Nat) := cond (Nat.ble 191 pc) none (cond (Nat.ble pc 130) (cond (Nat.ble pc 92) (cond (Nat.ble pc 77) (cond (Nat.ble pc 68) (cond (Nat.ble pc 1) (cond (Nat.ble pc 0) (cond (Nat.beq pc 0) (some (.aload_n 1, 1)) none) (cond (Nat.beq pc 1) (some (.getfield 86, 3)) none)) (cond (Nat.ble pc 4) (cond (Nat.beq pc 4) (some (.tableswitch 185 10 21 #[143, 185, 185, 64, 88, 149, 155, 179, 155, 132, 138, 143], 64)) none) (cond (Nat.beq pc 68) (some (.aload_n 0, 1)) none))) (cond (Nat.ble pc 72) (cond (Nat.ble pc 69) (cond (Nat.beq pc 69) (some (.getfield 41, 3)) none) (cond (Nat.beq pc 72) (some (.aload_n 1, 1)) none)) (cond (Nat.ble pc 73) (cond (Nat.beq pc 73) (some (.getfield 154, 3)) none) (cond (Nat.ble pc 76) (cond (Nat.beq pc 76) (some (.isub, 1)) none) (cond (Nat.beq pc 77) (some (.i2l, 1)) none))))) (cond (Nat.ble pc 83) (cond (Nat.ble pc 79) (cond (Nat.ble pc 78) (cond (Nat.beq pc 78) (some (.aload_n 1, 1)) none) (cond (Nat.beq pc 79) (some (.getfield 136, 3)) none)) (cond (Nat.ble pc 82) (cond (Nat.beq pc 82) (some (.lcmp, 1)) none) (cond (Nat.beq pc 83) (some (.ifCond .lt 7, 3)) none))) (cond (Nat.ble pc 87) (cond (Nat.ble pc 86) (cond (Nat.beq pc 86) (some (.iconst 1, 1)) none) (cond (Nat.beq pc 87) (some (.goto 4, 3)) none)) (cond (Nat.ble pc 90) (cond (Nat.beq pc 90) (some (.iconst 0, 1)) none) (cond (Nat.ble pc 91) (cond (Nat.beq pc 91) (some (.ireturn, 1)) none) (cond (Nat.beq pc 92) (some (.aload_n 0, 1)) none)))))) (cond (Nat.ble pc 111) (cond (Nat.ble pc 100) (cond (Nat.ble pc 96) (cond (Nat.ble pc 93) (cond (Nat.beq pc 93) (some (.getfield 41, 3)) none) (cond (Nat.beq pc 96) (some (.aload_n 1, 1)) none)) (cond (Nat.ble pc 97) (cond (Nat.beq pc 97) (some (.getfield 154, 3)) none) (cond (Nat.beq pc 100) (some (.if_icmp .ne 10, 3)) none))) (cond (Nat.ble pc 104) (cond (Nat.ble pc 103) (cond (Nat.beq pc 103) (some (.aload_n 1, 1)) none) (cond (Nat.beq pc 104) (some (.getfield 136, 3)) none)) (cond (Nat.ble pc 107) (cond (Nat.beq pc 107) (some (.goto 11, 3)) none) (cond (Nat.ble pc 110) (cond (Nat.beq pc 110) (some (.aload_n 0, 1)) none) (cond (Nat.beq pc 111) (some (.aload_n 1, 1)) none))))) (cond (Nat.ble pc 119) (cond (Nat.ble pc 115) (cond (Nat.ble pc 112) (cond (Nat.beq pc 112) (some (.getfield 92, 3)) none) (cond (Nat.beq pc 115) (some (.invokevirtual 95, 3)) none)) (cond (Nat.ble pc 118) (cond (Nat.beq pc 118) (some (.lconst 0, 1)) none) (cond (Nat.beq pc 119) (some (.lcmp, 1)) none))) (cond (Nat.ble pc 123) (cond (Nat.ble pc 120) (cond (Nat.beq pc 120) (some (.ifCond .eq 14, 3)) none) (cond (Nat.beq pc 123) (some (.aload_n 0, 1)) none)) (cond (Nat.ble pc 124) (cond (Nat.beq pc 124) (some (.getfield 82, 3)) none) (cond (Nat.ble pc 127) (cond (Nat.beq pc 127) (some (.ifCond .ne 7, 3)) none) (cond (Nat.beq pc 130) (some (.iconst 1, 1)) none))))))) (cond (Nat.ble pc 158) (cond (Nat.ble pc 143) (cond (Nat.ble pc 136) (cond (Nat.ble pc 134) (cond (Nat.ble pc 131) (cond (Nat.beq pc 131) (some (.goto 4, 3)) none) (cond (Nat.beq pc 134) (some (.iconst 0, 1)) none)) (cond (Nat.ble pc 135) (cond (Nat.beq pc 135) (some (.ireturn, 1)) none) (cond (Nat.beq pc 136) (some (.aload_n 0, 1)) none))) (cond (Nat.ble pc 138) (cond (Nat.ble pc 137) (cond (Nat.beq pc 137) (some (.aload_n 1, 1)) none) (cond (Nat.beq pc 138) (some (.invokevirtual 157, 3)) none)) (cond (Nat.ble pc 141) (cond (Nat.beq pc 141) (some (.ireturn, 1)) none) (cond (Nat.ble pc 142) (cond (Nat.beq pc 142) (some (.aload_n 1, 1)) none) (cond (Nat.beq pc 143) (some (.getfield 160, 3)) none))))) (cond (Nat.ble pc 149) (cond (Nat.ble pc 147) (cond (Nat.ble pc 146) (cond (Nat.beq pc 146) (some (.ireturn, 1)) none) (cond (Nat.beq pc 147) (some (.aload_n 0, 1)) none)) (cond (Nat.ble pc 148) (cond (Nat.beq pc 148) (some (.aload_n 1, 1)) none) (cond (Nat.beq pc 149) (some (.invokevirtual 163, 3)) none))) (cond (Nat.ble pc 153) (cond (Nat.ble pc 152) (cond (Nat.beq pc 152) (some (.ireturn, 1)) none) (cond (Nat.beq pc 153) (some (.aload_n 0, 1)) none)) (cond (Nat.ble pc 154) (cond (Nat.beq pc 154) (some (.aload_n 1, 1)) none) (cond (Nat.ble pc 155) (cond (Nat.beq pc 155) (some (.invokevirtual 166, 3)) none) (cond (Nat.beq pc 158) (some (.ireturn, 1)) none)))))) (cond (Nat.ble pc 175) (cond (Nat.ble pc 164) (cond (Nat.ble pc 160) (cond (Nat.ble pc 159) (cond (Nat.beq pc 159) (some (.aload_n 0, 1)) none) (cond (Nat.beq pc 160) (some (.aload_n 1, 1)) none)) (cond (Nat.ble pc 161) (cond (Nat.beq pc 161) (some (.getfield 89, 3)) none) (cond (Nat.beq pc 164) (some (.iconst 1, 1)) none))) (cond (Nat.ble pc 168) (cond (Nat.ble pc 165) (cond (Nat.beq pc 165) (some (.if_icmp .ne 10, 3)) none) (cond (Nat.beq pc 168) (some (.aload_n 1, 1)) none)) (cond (Nat.ble pc 169) (cond (Nat.beq pc 169) (some (.getfield 66, 3)) none) (cond (Nat.ble pc 172) (cond (Nat.beq pc 172) (some (.goto 7, 3)) none) (cond (Nat.beq pc 175) (some (.aload_n 1, 1)) none))))) (cond (Nat.ble pc 183) (cond (Nat.ble pc 179) (cond (Nat.ble pc 176) (cond (Nat.beq pc 176) (some (.getfield 70, 3)) none) (cond (Nat.beq pc 179) (some (.invokevirtual 78, 3)) none)) (cond (Nat.ble pc 182) (cond (Nat.beq pc 182) (some (.ireturn, 1)) none) (cond (Nat.beq pc 183) (some (.aload_n 0, 1)) none))) (cond (Nat.ble pc 185) (cond (Nat.ble pc 184) (cond (Nat.beq pc 184) (some (.aload_n 1, 1)) none) (cond (Nat.beq pc 185) (some (.invokevirtual 169, 3)) none)) (cond (Nat.ble pc 188) (cond (Nat.beq pc 188) (some (.ireturn, 1)) none) (cond (Nat.ble pc 189) (cond (Nat.beq pc 189) (some (.iconst 1, 1)) none) (cond (Nat.beq pc 190) (some (.ireturn, 1)) none))))))))
set_option maxRecDepth 100000 in
theorem zd43_0 : (List.range' 0 137).all (fun pc => match zI43 pc with | some q => decide (decode (zCode 43) pc = .ok q) | none => true) = true := by decide +kernel
set_option maxRecDepth 100000 in
theorem zd43_1 : (List.range' 137 54).all (fun pc => match zI43 pc with | some q => decide (decode (zCode 43) pc = .ok q) | none => true) = true := by decide +kernel
theorem zJ43 {pc : Nat} {q : Jvm.ClassFile.Instr × Nat} (h : zI43 pc = some q) : decode (zCode 43) pc = .ok q := by
  have hb := (z_gd (n := 191) (pc := pc) h).1
  by_cases c0 : pc < 137
  · exact z_ck zd43_0 (by omega) (by omega) h
  exact z_ck zd43_1 (by omega) (by omega) h
def zI44 (pc : Nat) : Option (Jvm.ClassFile.Instr × Nat) := cond (Nat.ble 94 pc) none (cond (Nat.ble pc 47) (cond (Nat.ble pc 20) (cond (Nat.ble pc 9) (cond (Nat.ble pc 4) (cond (Nat.ble pc 0) (cond (Nat.beq pc 0) (some (.aload_n 0, 1)) none) (cond (Nat.ble pc 1) (cond (Nat.beq pc 1) (some (.getfield 41, 3)) none) (cond (Nat.beq pc 4) (some (.aload_n 1, 1)) none))) (cond (Nat.ble pc 5) (cond (Nat.beq pc 5) (some (.getfield 154, 3)) none) (cond (Nat.ble pc 8) (cond (Nat.beq pc 8) (some (.isub, 1)) none) (cond (Nat.beq pc 9) (some (.i2l, 1)) none)))) (cond (Nat.ble pc 12) (cond (Nat.ble pc 10) (cond (Nat.beq pc 10) (some (.lstore_n 2, 1)) none) (cond (Nat.ble pc 11) (cond (Nat.beq pc 11) (some (.aload_n 1, 1)) none) (cond (Nat.beq pc 12) (some (.getfield 172, 3)) none))) (cond (Nat.ble pc 16) (cond (Nat.ble pc 15) (cond (Nat.beq pc 15) (some (.lconst 1, 1)) none) (cond (Nat.beq pc 16) (some (.lcmp, 1)) none)) (cond (Nat.ble pc 17) (cond (Nat.beq pc 17) (some (.ifCond .lt 12, 3)) none) (cond (Nat.beq pc 20) (some (.lload_n 2, 1)) none))))) (cond (Nat.ble pc 30) (cond (Nat.ble pc 25) (cond (Nat.ble pc 21) (cond (Nat.beq pc 21) (some (.aload_n 1, 1)) none) (cond (Nat.ble pc 22) (cond (Nat.beq pc 22) (some (.getfield 172, 3)) none) (cond (Nat.beq pc 25) (some (.lcmp, 1)) none))) (cond (Nat.ble pc 26) (cond (Nat.beq pc 26) (some (.ifCond .lt 24, 3)) none) (cond (Nat.ble pc 29) (cond (Nat.beq pc 29) (some (.aload_n 0, 1)) none) (cond (Nat.beq pc 30) (some (.getfield 12, 3)) none)))) (cond (Nat.ble pc 37) (cond (Nat.ble pc 33) (cond (Nat.beq pc 33) (some (.getfield 129, 3)) none) (cond (Nat.ble pc 36) (cond (Nat.beq pc 36) (some (.aload_n 1, 1)) none) (cond (Nat.beq pc 37) (some (.getfield 133, 3)) none))) (cond (Nat.ble pc 41) (cond (Nat.ble pc 40) (cond (Nat.beq pc 40) (some (.aload_n 1, 1)) none) (cond (Nat.beq pc 41) (some (.getfield 136, 3)) none)) (cond (Nat.ble pc 44) (cond (Nat.beq pc 44) (some (.invokestatic 140, 3)) none) (cond (Nat.beq pc 47) (some (.pop, 1)) none)))))) (cond (Nat.ble pc 68) (cond (Nat.ble pc 55) (cond (Nat.ble pc 50) (cond (Nat.ble pc 48) (cond (Nat.beq pc 48) (some (.iconst 1, 1)) none) (cond (Nat.ble pc 49) (cond (Nat.beq pc 49) (some (.ireturn, 1)) none) (cond (Nat.beq pc 50) (some (.aload_n 1, 1)) none))) (cond (Nat.ble pc 51) (cond (Nat.beq pc 51) (some (.getfield 136, 3)) none) (cond (Nat.ble pc 54) (cond (Nat.beq pc 54) (some (.aload_n 1, 1)) none) (cond (Nat.beq pc 55) (some (.getfield 151, 3)) none)))) (cond (Nat.ble pc 60) (cond (Nat.ble pc 58) (cond (Nat.beq pc 58) (some (.lsub, 1)) none) (cond (Nat.ble pc 59) (cond (Nat.beq pc 59) (some (.lload_n 2, 1)) none) (cond (Nat.beq pc 60) (some (.lmul, 1)) none))) (cond (Nat.ble pc 62) (cond (Nat.ble pc 61) (cond (Nat.beq pc 61) (some (.aload_n 1, 1)) none) (cond (Nat.beq pc 62) (some (.getfield 172, 3)) none)) (cond (Nat.ble pc 65) (cond (Nat.beq pc 65) (some (.invokestatic 175, 3)) none) (cond (Nat.beq pc 68) (some (.lstore 4, 2)) none))))) (cond (Nat.ble pc 81) (cond (Nat.ble pc 74) (cond (Nat.ble pc 70) (cond (Nat.beq pc 70) (some (.aload_n 0, 1)) none) (cond (Nat.ble pc 71) (cond (Nat.beq pc 71) (some (.getfield 12, 3)) none) (cond (Nat.beq pc 74) (some (.getfield 129, 3)) none))) (cond (Nat.ble pc 77) (cond (Nat.beq pc 77) (some (.aload_n 1, 1)) none) (cond (Nat.ble pc 78) (cond (Nat.beq pc 78) (some (.getfield 133, 3)) none) (cond (Nat.beq pc 81) (some (.aload_n 1, 1)) none)))) (cond (Nat.ble pc 87) (cond (Nat.ble pc 82) (cond (Nat.beq pc 82) (some (.getfield 151, 3)) none) (cond (Nat.ble pc 85) (cond (Nat.beq pc 85) (some (.lload 4, 2)) none) (cond (Nat.beq pc 87) (some (.ladd, 1)) none))) (cond (Nat.ble pc 91) (cond (Nat.ble pc 88) (cond (Nat.beq pc 88) (some (.invokestatic 140, 3)) none) (cond (Nat.beq pc 91) (some (.pop, 1)) none)) (cond (Nat.ble pc 92) (cond (Nat.beq pc 92) (some (.iconst 0, 1)) none) (cond (Nat.beq pc 93) (some (.ireturn, 1)) none)))))))
set_option maxRecDepth 100000 in
theorem zd44_0 : (List.range' 0 71).all (fun pc => match zI44 pc with | some q => decide (decode (zCode 44) pc = .ok q) | none => true) = true := by decide +kernel
set_option maxRecDepth 100000 in
theorem zd44_1 : (List.range' 71 23).all (fun pc => match zI44 pc with | some q => decide (decode (zCode 44) pc = .ok q) | none => true) = true := by decide +kernel
theorem zJ44 {pc : Nat} {q : Jvm.ClassFile.Instr × Nat} (h : zI44 pc = some q) : decode (zCode 44) pc = .ok q := by
  have hb := (z_gd (n := 94) (pc := pc) h).1
  by_cases c0 : pc < 71
  · exact z_ck zd44_0 (by omega) (by omega) h
  exact z_ck zd44_1 (by omega) (by omega) h
def zI45 (pc : Nat) : Option (Jvm.ClassFile.Instr × Nat) := cond (Nat.ble 30 pc) none (cond (Nat.ble pc 13) (cond (Nat.ble pc 5) (cond (Nat.ble pc 1) (cond (Nat.ble pc 0) (cond (Nat.beq pc 0) (some (.lload_n 0, 1)) none) (cond (Nat.beq pc 1) (some (.lload_n 2, 1)) none)) (cond (Nat.ble pc 2) (cond (Nat.beq pc 2) (some (.ldiv, 1)) none) (cond (Nat.ble pc 3) (cond (Nat.beq pc 3) (some (.lstore 4, 2)) none) (cond (Nat.beq pc 5) (some (.lload_n 0, 1)) none)))) (cond (Nat.ble pc 8) (cond (Nat.ble pc 6) (cond (Nat.beq pc 6) (some (.lload_n 2, 1)) none) (cond (Nat.ble pc 7) (cond (Nat.beq pc 7) (some (.lxor, 1)) none) (cond (Nat.beq pc 8) (some (.lconst 0, 1)) none))) (cond (Nat.ble pc 9) (cond (Nat.beq pc 9) (some (.lcmp, 1)) none) (cond (Nat.ble pc 10) (cond (Nat.beq pc 10) (some (.ifCond .ge 17, 3)) none) (cond (Nat.beq pc 13) (some (.lload 4, 2)) none))))) (cond (Nat.ble pc 19) (cond (Nat.ble pc 16) (cond (Nat.ble pc 15) (cond (Nat.beq pc 15) (some (.lload_n 2, 1)) none) (cond (Nat.beq pc 16) (some (.lmul, 1)) none)) (cond (Nat.ble pc 17) (cond (Nat.beq pc 17) (some (.lload_n 0, 1)) none) (cond (Nat.ble pc 18) (cond (Nat.beq pc 18) (some (.lcmp, 1)) none) (cond (Nat.beq pc 19) (some (.ifCond .eq 8, 3)) none)))) (cond (Nat.ble pc 25) (cond (Nat.ble pc 22) (cond (Nat.beq pc 22) (some (.lload 4, 2)) none) (cond (Nat.ble pc 24) (cond (Nat.beq pc 24) (some (.lconst 1, 1)) none) (cond (Nat.beq pc 25) (some (.lsub, 1)) none))) (cond (Nat.ble pc 26) (cond (Nat.beq pc 26) (some (.lreturn, 1)) none) (cond (Nat.ble pc 27) (cond (Nat.beq pc 27) (some (.lload 4, 2)) none) (cond (Nat.beq pc 29) (some (.lreturn, 1)) none))))))
set_option maxRecDepth 100000 in
theorem zd45_0 : (List.range' 0 30).all (fun pc => match zI45 pc with | some q => decide (decode (zCode 45) pc = .ok q) | none => true) = true := by decide +kernel
theorem zJ45 {pc : Nat} {q : Jvm.ClassFile.Instr × Nat} (h : zI45 pc = some q) : decode (zCode 45) pc = .ok q := by
  have hb := (z_gd (n := 30) (pc := pc) h).1
  exact z_ck zd45_0 (by omega) (by omega) h
end
section
/-! decoded code, by program (wip/whole/gen2.py) -/
def zI46 (pc : Nat) : Option (Jvm.ClassFile.Instr × Nat) := cond (Nat.ble 53 pc) none (cond (Nat.ble pc 23) (cond (Nat.ble pc 12) (cond (Nat.ble pc 2) (cond (Nat.ble pc 0) (cond (Nat.beq pc 0) (some (.aload_n 0, 1)) none) (cond (Nat.ble pc 1) (cond (Nat.beq pc 1) (some (.aload_n 1, 1)) none) (cond (Nat.beq pc 2) (some (.getfield 66, 3)) none))) (cond (Nat.ble pc 8) (cond (Nat.ble pc 5) (cond (Nat.beq pc 5) (some (.invokevirtual 78, 3)) none) (cond (Nat.beq pc 8) (some (.ifCond .ne 5, 3)) none)) (cond (Nat.ble pc 11) (cond (Nat.beq pc 11) (some (.iconst 0, 1)) none) (cond (Nat.beq pc 12) (some (.ireturn, 1)) none)))) (cond (Nat.ble pc 15) (cond (Nat.ble pc 13) (cond (Nat.beq pc 13) (some (.aload_n 1, 1)) none) (cond (Nat.ble pc 14) (cond (Nat.beq pc 14) (some (.iconst 2, 1)) none) (cond (Nat.beq pc 15) (some (.putfield 89, 3)) none))) (cond (Nat.ble pc 19) (cond (Nat.ble pc 18) (cond (Nat.beq pc 18) (some (.aload_n 0, 1)) none) (cond (Nat.beq pc 19) (some (.aload_n 1, 1)) none)) (cond (Nat.ble pc 20) (cond (Nat.beq pc 20) (some (.getfield 70, 3)) none) (cond (Nat.beq pc 23) (some (.invokevirtual 78, 3)) none))))) (cond (Nat.ble pc 37) (cond (Nat.ble pc 30) (cond (Nat.ble pc 26) (cond (Nat.beq pc 26) (some (.ifCond .ne 5, 3)) none) (cond (Nat.ble pc 29) (cond (Nat.beq pc 29) (some (.iconst 0, 1)) none) (cond (Nat.beq pc 30) (some (.ireturn, 1)) none))) (cond (Nat.ble pc 32) (cond (Nat.ble pc 31) (cond (Nat.beq pc 31) (some (.aload_n 1, 1)) none) (cond (Nat.beq pc 32) (some (.getfield 86, 3)) none)) (cond (Nat.ble pc 35) (cond (Nat.beq pc 35) (some (.bipush 21, 2)) none) (cond (Nat.beq pc 37) (some (.if_icmp .ne 14, 3)) none)))) (cond (Nat.ble pc 44) (cond (Nat.ble pc 40) (cond (Nat.beq pc 40) (some (.aload_n 0, 1)) none) (cond (Nat.ble pc 41) (cond (Nat.beq pc 41) (some (.getfield 21, 3)) none) (cond (Nat.beq pc 44) (some (.aload_n 1, 1)) none))) (cond (Nat.ble pc 48) (cond (Nat.ble pc 45) (cond (Nat.beq pc 45) (some (.getfield 99, 3)) none) (cond (Nat.beq pc 48) (some (.invokevirtual 181, 3)) none)) (cond (Nat.ble pc 51) (cond (Nat.beq pc 51) (some (.iconst 1, 1)) none) (cond (Nat.beq pc 52) (some (.ireturn, 1)) none))))))
set_option maxRecDepth 100000 in
theorem zd46_0 : (List.range' 0 53).all (fun pc => match zI46 pc with | some q => decide (decode (zCode 46) pc = .ok q) | none => true) = true := by decide +kernel
theorem zJ46 {pc : Nat} {q : Jvm.ClassFile.Instr × Nat} (h : zI46 pc = some q) : decode (zCode 46) pc = .ok q := by
  have hb := (z_gd (n := 53) (pc := pc) h).1
  exact z_ck zd46_0 (by omega) (by omega) h
def zI47 (pc : Nat) : Option (Jvm.ClassFile.Instr × Nat) := cond (Nat.ble 40 pc) none (cond (Nat.ble pc 20) (cond (Nat.ble pc 8) (cond (Nat.ble pc 1) (cond (Nat.ble pc 0) (cond (Nat.beq pc 0) (some (.aload_n 0, 1)) none) (cond (Nat.beq pc 1) (some (.getfield 28, 3)) none)) (cond (Nat.ble pc 4) (cond (Nat.beq pc 4) (some (.ifCond .lt 25, 3)) none) (cond (Nat.ble pc 7) (cond (Nat.beq pc 7) (some (.aload_n 0, 1)) none) (cond (Nat.beq pc 8) (some (.getfield 28, 3)) none)))) (cond (Nat.ble pc 15) (cond (Nat.ble pc 11) (cond (Nat.beq pc 11) (some (.aload_n 0, 1)) none) (cond (Nat.ble pc 12) (cond (Nat.beq pc 12) (some (.getfield 21, 3)) none) (cond (Nat.beq pc 15) (some (.arraylength, 1)) none))) (cond (Nat.ble pc 16) (cond (Nat.beq pc 16) (some (.if_icmp .ge 13, 3)) none) (cond (Nat.ble pc 19) (cond (Nat.beq pc 19) (some (.aload_n 0, 1)) none) (cond (Nat.beq pc 20) (some (.getfield 21, 3)) none))))) (cond (Nat.ble pc 29) (cond (Nat.ble pc 24) (cond (Nat.ble pc 23) (cond (Nat.beq pc 23) (some (.aload_n 0, 1)) none) (cond (Nat.beq pc 24) (some (.getfield 28, 3)) none)) (cond (Nat.ble pc 27) (cond (Nat.beq pc 27) (some (.iload_n 1, 1)) none) (cond (Nat.ble pc 28) (cond (Nat.beq pc 28) (some (.iastore, 1)) none) (cond (Nat.beq pc 29) (some (.aload_n 0, 1)) none)))) (cond (Nat.ble pc 34) (cond (Nat.ble pc 30) (cond (Nat.beq pc 30) (some (.dup, 1)) none) (cond (Nat.ble pc 31) (cond (Nat.beq pc 31) (some (.getfield 28, 3)) none) (cond (Nat.beq pc 34) (some (.iconst 1, 1)) none))) (cond (Nat.ble pc 35) (cond (Nat.beq pc 35) (some (.iadd, 1)) none) (cond (Nat.ble pc 36) (cond (Nat.beq pc 36) (some (.putfield 28, 3)) none) (cond (Nat.beq pc 39) (some (.return_, 1)) none))))))
set_option maxRecDepth 100000 in
theorem zd47_0 : (List.range' 0 40).all (fun pc => match zI47 pc with | some q => decide (decode (zCode 47) pc = .ok q) | none => true) = true := by decide +kernel
theorem zJ47 {pc : Nat} {q : Jvm.ClassFile.Instr × Nat} (h : zI47 pc = some q) : decode (zCode 47) pc = .ok q := by
  have hb := (z_gd (n := 40) (pc := pc) h).1
  exact z_ck zd47_0 (by omega) (by omega) h
def zI48 (pc : Nat) : Option (Jvm.ClassFile.Instr × Nat) := cond (Nat.ble 32 pc) none (cond (Nat.ble pc 14) (cond (Nat.ble pc 5) (cond (Nat.ble pc 1) (cond (Nat.ble pc 0) (cond (Nat.beq pc 0) (some (.aload_n 0, 1)) none) (cond (Nat.beq pc 1) (some (.aload_n 1, 1)) none)) (cond (Nat.ble pc 2) (cond (Nat.beq pc 2) (some (.getfield 66, 3)) none) (cond (Nat.beq pc 5) (some (.invokevirtual 78, 3)) none))) (cond (Nat.ble pc 9) (cond (Nat.ble pc 8) (cond (Nat.beq pc 8) (some (.istore_n 2, 1)) none) (cond (Nat.beq pc 9) (some (.aload_n 0, 1)) none)) (cond (Nat.ble pc 10) (cond (Nat.beq pc 10) (some (.aload_n 1, 1)) none) (cond (Nat.ble pc 11) (cond (Nat.beq pc 11) (some (.getfield 70, 3)) none) (cond (Nat.beq pc 14) (some (.invokevirtual 78, 3)) none))))) (cond (Nat.ble pc 22) (cond (Nat.ble pc 18) (cond (Nat.ble pc 17) (cond (Nat.beq pc 17) (some (.istore_n 3, 1)) none) (cond (Nat.beq pc 18) (some (.iload_n 2, 1)) none)) (cond (Nat.ble pc 19) (cond (Nat.beq pc 19) (some (.ifCond .eq 11, 3)) none) (cond (Nat.beq pc 22) (some (.iload_n 3, 1)) none))) (cond (Nat.ble pc 26) (cond (Nat.ble pc 23) (cond (Nat.beq pc 23) (some (.ifCond .eq 7, 3)) none) (cond (Nat.beq pc 26) (some (.iconst 1, 1)) none)) (cond (Nat.ble pc 27) (cond (Nat.beq pc 27) (some (.goto 4, 3)) none) (cond (Nat.ble pc 30) (cond (Nat.beq pc 30) (some (.iconst 0, 1)) none) (cond (Nat.beq pc 31) (some (.ireturn, 1)) none))))))
set_option maxRecDepth 100000 in
theorem zd48_0 : (List.range' 0 32).all (fun pc => match zI48 pc with | some q => decide (decode (zCode 48) pc = .ok q) | none => true) = true := by decide +kernel
theorem zJ48 {pc : Nat} {q : Jvm.ClassFile.Instr × Nat} (h : zI48 pc = some q) : decode (zCode 48) pc = .ok q := by
  have hb := (z_gd (n := 32) (pc := pc) h).1
  exact z_ck zd48_0 (by omega) (by omega) h
def zI49 (pc : Nat) : Option (Jvm.ClassFile.Instr × Nat) := cond (Nat.ble 69 pc) none (cond (Nat.ble pc 31) (cond (Nat.ble pc 14) (cond (Nat.ble pc 3) (cond (Nat.ble pc 1) (cond (Nat.ble pc 0) (cond (Nat.beq pc 0) (some (.iconst 0, 1)) none) (cond (Nat.beq pc 1) (some (.istore_n 2, 1)) none)) (cond (Nat.ble pc 2) (cond (Nat.beq pc 2) (some (.iload_n 2, 1)) none) (cond (Nat.beq pc 3) (some (.sipush 1002, 3)) none))) (cond (Nat.ble pc 9) (cond (Nat.ble pc 6) (cond (Nat.beq pc 6) (some (.if_icmp .ge 48, 3)) none) (cond (Nat.beq pc 9) (some (.aload_n 1, 1)) none)) (cond (Nat.ble pc 10) (cond (Nat.beq pc 10) (some (.getfield 136, 3)) none) (cond (Nat.ble pc 13) (cond (Nat.beq pc 13) (some (.lconst 0, 1)) none) (cond (Nat.beq pc 14) (some (.lcmp, 1)) none))))) (cond (Nat.ble pc 20) (cond (Nat.ble pc 18) (cond (Nat.ble pc 15) (cond (Nat.beq pc 15) (some (.ifCond .le 39, 3)) none) (cond (Nat.beq pc 18) (some (.aload_n 0, 1)) none)) (cond (Nat.ble pc 19) (cond (Nat.beq pc 19) (some (.aload_n 1, 1)) none) (cond (Nat.beq pc 20) (some (.getfield 66, 3)) none))) (cond (Nat.ble pc 26) (cond (Nat.ble pc 23) (cond (Nat.beq pc 23) (some (.invokevirtual 78, 3)) none) (cond (Nat.beq pc 26) (some (.ifCond .ne 5, 3)) none)) (cond (Nat.ble pc 29) (cond (Nat.beq pc 29) (some (.iconst 0, 1)) none) (cond (Nat.ble pc 30) (cond (Nat.beq pc 30) (some (.ireturn, 1)) none) (cond (Nat.beq pc 31) (some (.aload_n 1, 1)) none)))))) (cond (Nat.ble pc 48) (cond (Nat.ble pc 37) (cond (Nat.ble pc 33) (cond (Nat.ble pc 32) (cond (Nat.beq pc 32) (some (.dup, 1)) none) (cond (Nat.beq pc 33) (some (.getfield 136, 3)) none)) (cond (Nat.ble pc 36) (cond (Nat.beq pc 36) (some (.lconst 1, 1)) none) (cond (Nat.beq pc 37) (some (.lsub, 1)) none))) (cond (Nat.ble pc 41) (cond (Nat.ble pc 38) (cond (Nat.beq pc 38) (some (.putfield 136, 3)) none) (cond (Nat.beq pc 41) (some (.aload_n 1, 1)) none)) (cond (Nat.ble pc 42) (cond (Nat.beq pc 42) (some (.getfield 66, 3)) none) (cond (Nat.ble pc 45) (cond (Nat.beq pc 45) (some (.invokestatic 185, 3)) none) (cond (Nat.beq pc 48) (some (.iinc 2 1, 3)) none))))) (cond (Nat.ble pc 59) (cond (Nat.ble pc 54) (cond (Nat.ble pc 51) (cond (Nat.beq pc 51) (some (.goto (-49), 3)) none) (cond (Nat.beq pc 54) (some (.aload_n 1, 1)) none)) (cond (Nat.ble pc 55) (cond (Nat.beq pc 55) (some (.getfield 136, 3)) none) (cond (Nat.ble pc 58) (cond (Nat.beq pc 58) (some (.lconst 1, 1)) none) (cond (Nat.beq pc 59) (some (.lcmp, 1)) none)))) (cond (Nat.ble pc 63) (cond (Nat.ble pc 60) (cond (Nat.beq pc 60) (some (.ifCond .ge 7, 3)) none) (cond (Nat.beq pc 63) (some (.iconst 1, 1)) none)) (cond (Nat.ble pc 64) (cond (Nat.beq pc 64) (some (.goto 4, 3)) none) (cond (Nat.ble pc 67) (cond (Nat.beq pc 67) (some (.iconst 0, 1)) none) (cond (Nat.beq pc 68) (some (.ireturn, 1)) none)))))))
set_option maxRecDepth 100000 in
theorem zd49_0 : (List.range' 0 69).all (fun pc => match zI49 pc with | some q => decide (decode (zCode 49) pc = .ok q) | none => true) = true := by decide +kernel
theorem zJ49 {pc : Nat} {q : Jvm.ClassFile.Instr × Nat} (h : zI49 pc = some q) : decode (zCode 49) pc = .ok q := by
  have hb := (z_gd (n := 69) (pc := pc) h).1
  exact z_ck zd49_0 (by omega) (by omega) h
def zI50 (pc : Nat) : Option (Jvm.ClassFile.Instr × Nat) := cond (Nat.ble 57 pc) none (cond (Nat.ble pc 25) (cond (Nat.ble pc 11) (cond (Nat.ble pc 4) (cond (Nat.ble pc 0) (cond (Nat.beq pc 0) (some (.aload_n 0, 1)) none) (cond (Nat.ble pc 1) (cond (Nat.beq pc 1) (some (.getfield 19, 3)) none) (cond (Nat.beq pc 4) (some (.getfield 65, 3)) none))) (cond (Nat.ble pc 7) (cond (Nat.beq pc 7) (some (.iconst 2, 1)) none) (cond (Nat.ble pc 8) (cond (Nat.beq pc 8) (some (.if_icmp .ne 34, 3)) none) (cond (Nat.beq pc 11) (some (.aload_n 0, 1)) none)))) (cond (Nat.ble pc 18) (cond (Nat.ble pc 12) (cond (Nat.beq pc 12) (some (.getfield 19, 3)) none) (cond (Nat.ble pc 15) (cond (Nat.beq pc 15) (some (.getfield 31, 3)) none) (cond (Nat.beq pc 18) (some (.iload_n 1, 1)) none))) (cond (Nat.ble pc 19) (cond (Nat.beq pc 19) (some (.invokevirtual 72, 3)) none) (cond (Nat.ble pc 22) (cond (Nat.beq pc 22) (some (.ifCond .eq 20, 3)) none) (cond (Nat.beq pc 25) (some (.aload_n 0, 1)) none))))) (cond (Nat.ble pc 39) (cond (Nat.ble pc 32) (cond (Nat.ble pc 26) (cond (Nat.beq pc 26) (some (.getfield 19, 3)) none) (cond (Nat.ble pc 29) (cond (Nat.beq pc 29) (some (.getfield 31, 3)) none) (cond (Nat.beq pc 32) (some (.getfield 76, 3)) none))) (cond (Nat.ble pc 35) (cond (Nat.beq pc 35) (some (.iload_n 1, 1)) none) (cond (Nat.ble pc 36) (cond (Nat.beq pc 36) (some (.invokestatic 79, 3)) none) (cond (Nat.beq pc 39) (some (.goto 17, 3)) none)))) (cond (Nat.ble pc 46) (cond (Nat.ble pc 42) (cond (Nat.beq pc 42) (some (.aload_n 0, 1)) none) (cond (Nat.ble pc 43) (cond (Nat.beq pc 43) (some (.getfield 19, 3)) none) (cond (Nat.beq pc 46) (some (.getfield 31, 3)) none))) (cond (Nat.ble pc 52) (cond (Nat.ble pc 49) (cond (Nat.beq pc 49) (some (.getfield 83, 3)) none) (cond (Nat.beq pc 52) (some (.iload_n 1, 1)) none)) (cond (Nat.ble pc 53) (cond (Nat.beq pc 53) (some (.invokestatic 79, 3)) none) (cond (Nat.beq pc 56) (some (.lreturn, 1)) none))))))
set_option maxRecDepth 100000 in
theorem zd50_0 : (List.range' 0 57).all (fun pc => match zI50 pc with | some q => decide (decode (zCode 50) pc = .ok q) | none => true) = true := by decide +kernel
theorem zJ50 {pc : Nat} {q : Jvm.ClassFile.Instr × Nat} (h : zI50 pc = some q) : decode (zCode 50) pc = .ok q := by
  have hb := (z_gd (n := 57) (pc := pc) h).1
  exact z_ck zd50_0 (by omega) (by omega) h
def zI51 (pc : Nat) : Option (Jvm.ClassFile.Instr × Nat) := cond (Nat.ble 28 pc) none (cond (Nat.ble pc 13) (cond (Nat.ble pc 5) (cond (Nat.ble pc 1) (cond (Nat.ble pc 0) (cond (Nat.beq pc 0) (some (.iload_n 1, 1)) none) (cond (Nat.beq pc 1) (some (.ifCond .lt 25, 3)) none)) (cond (Nat.ble pc 4) (cond (Nat.beq pc 4) (some (.iload_n 1, 1)) none) (cond (Nat.beq pc 5) (some (.aload_n 0, 1)) none))) (cond (Nat.ble pc 9) (cond (Nat.ble pc 6) (cond (Nat.beq pc 6) (some (.getfield 24, 3)) none) (cond (Nat.beq pc 9) (some (.arraylength, 1)) none)) (cond (Nat.ble pc 10) (cond (Nat.beq pc 10) (some (.if_icmp .ge 16, 3)) none) (cond (Nat.beq pc 13) (some (.aload_n 0, 1)) none)))) (cond (Nat.ble pc 19) (cond (Nat.ble pc 17) (cond (Nat.ble pc 14) (cond (Nat.beq pc 14) (some (.getfield 24, 3)) none) (cond (Nat.beq pc 17) (some (.iload_n 1, 1)) none)) (cond (Nat.ble pc 18) (cond (Nat.beq pc 18) (some (.baload, 1)) none) (cond (Nat.beq pc 19) (some (.ifCond .eq 7, 3)) none))) (cond (Nat.ble pc 23) (cond (Nat.ble pc 22) (cond (Nat.beq pc 22) (some (.iconst 1, 1)) none) (cond (Nat.beq pc 23) (some (.goto 4, 3)) none)) (cond (Nat.ble pc 26) (cond (Nat.beq pc 26) (some (.iconst 0, 1)) none) (cond (Nat.beq pc 27) (some (.ireturn, 1)) none)))))
set_option maxRecDepth 100000 in
theorem zd51_0 : (List.range' 0 28).all (fun pc => match zI51 pc with | some q => decide (decode (zCode 51) pc = .ok q) | none => true) = true := by decide +kernel
theorem zJ51 {pc : Nat} {q : Jvm.ClassFile.Instr × Nat} (h : zI51 pc = some q) : decode (zCode 51) pc = .ok q := by
  have hb := (z_gd (n := 28) (pc := pc) h).1
  exact z_ck zd51_0 (by omega) (by omega) h
def zI52 (pc : Nat) : Option (Jvm.ClassFile.Instr × Nat) := cond (Nat.ble 9 pc) none (cond (Nat.ble pc 1) (cond (Nat.ble pc 0) (cond (Nat.beq pc 0) (some (.aload_n 0, 1)) none) (cond (Nat.beq pc 1) (some (.getfield 19, 3)) none)) (cond (Nat.ble pc 4) (cond (Nat.beq pc 4) (some (.iload_n 1, 1)) none) (cond (Nat.ble pc 5) (cond (Nat.beq pc 5) (some (.invokevirtual 86, 3)) none) (cond (Nat.beq pc 8) (some (.ireturn, 1)) none))))
set_option maxRecDepth 100000 in
theorem zd52_0 : (List.range' 0 9).all (fun pc => match zI52 pc with | some q => decide (decode (zCode 52) pc = .ok q) | none => true) = true := by decide +kernel
theorem zJ52 {pc : Nat} {q : Jvm.ClassFile.Instr × Nat} (h : zI52 pc = some q) : decode (zCode 52) pc = .ok q := by
  have hb := (z_gd (n := 9) (pc := pc) h).1
  exact z_ck zd52_0 (by omega) (by omega) h
def zI53 (pc : Nat) : Option (Jvm.ClassFile.Instr × Nat) := cond (Nat.ble 73 pc) none (cond (Nat.ble pc 30) (cond (Nat.ble pc 12) (cond (Nat.ble pc 7) (cond (Nat.ble pc 1) (cond (Nat.ble pc 0) (cond (Nat.beq pc 0) (some (.aload_n 0, 1)) none) (cond (Nat.beq pc 1) (some (.invokevirtual 203, 3)) none)) (cond (Nat.ble pc 4) (cond (Nat.beq pc 4) (some (.ifCond .ne 5, 3)) none) (cond (Nat.beq pc 7) (some (.iconst (-1), 1)) none))) (cond (Nat.ble pc 9) (cond (Nat.ble pc 8) (cond (Nat.beq pc 8) (some (.ireturn, 1)) none) (cond (Nat.beq pc 9) (some (.iconst 0, 1)) none)) (cond (Nat.ble pc 10) (cond (Nat.beq pc 10) (some (.istore_n 2, 1)) none) (cond (Nat.ble pc 11) (cond (Nat.beq pc 11) (some (.iconst 0, 1)) none) (cond (Nat.beq pc 12) (some (.istore_n 3, 1)) none))))) (cond (Nat.ble pc 21) (cond (Nat.ble pc 14) (cond (Nat.ble pc 13) (cond (Nat.beq pc 13) (some (.iload_n 3, 1)) none) (cond (Nat.beq pc 14) (some (.aload_n 0, 1)) none)) (cond (Nat.ble pc 15) (cond (Nat.beq pc 15) (some (.getfield 44, 3)) none) (cond (Nat.ble pc 18) (cond (Nat.beq pc 18) (some (.if_icmp .ge 53, 3)) none) (cond (Nat.beq pc 21) (some (.iload_n 3, 1)) none)))) (cond (Nat.ble pc 23) (cond (Nat.ble pc 22) (cond (Nat.beq pc 22) (some (.aload_n 0, 1)) none) (cond (Nat.beq pc 23) (some (.getfield 27, 3)) none)) (cond (Nat.ble pc 26) (cond (Nat.beq pc 26) (some (.arraylength, 1)) none) (cond (Nat.ble pc 27) (cond (Nat.beq pc 27) (some (.if_icmp .ge 44, 3)) none) (cond (Nat.beq pc 30) (some (.aload_n 0, 1)) none)))))) (cond (Nat.ble pc 51) (cond (Nat.ble pc 38) (cond (Nat.ble pc 34) (cond (Nat.ble pc 31) (cond (Nat.beq pc 31) (some (.getfield 27, 3)) none) (cond (Nat.beq pc 34) (some (.iload_n 3, 1)) none)) (cond (Nat.ble pc 35) (cond (Nat.beq pc 35) (some (.aaload, 1)) none) (cond (Nat.ble pc 36) (cond (Nat.beq pc 36) (some (.astore 4, 2)) none) (cond (Nat.beq pc 38) (some (.aload 4, 2)) none)))) (cond (Nat.ble pc 43) (cond (Nat.ble pc 40) (cond (Nat.beq pc 40) (some (.ifnull 25, 3)) none) (cond (Nat.beq pc 43) (some (.aload 4, 2)) none)) (cond (Nat.ble pc 45) (cond (Nat.beq pc 45) (some (.invokevirtual 206, 3)) none) (cond (Nat.ble pc 48) (cond (Nat.beq pc 48) (some (.ifCond .eq 17, 3)) none) (cond (Nat.beq pc 51) (some (.iload_n 2, 1)) none))))) (cond (Nat.ble pc 61) (cond (Nat.ble pc 53) (cond (Nat.ble pc 52) (cond (Nat.beq pc 52) (some (.iload_n 1, 1)) none) (cond (Nat.beq pc 53) (some (.if_icmp .ne 9, 3)) none)) (cond (Nat.ble pc 56) (cond (Nat.beq pc 56) (some (.aload 4, 2)) none) (cond (Nat.ble pc 58) (cond (Nat.beq pc 58) (some (.getfield 99, 3)) none) (cond (Nat.beq pc 61) (some (.ireturn, 1)) none)))) (cond (Nat.ble pc 65) (cond (Nat.ble pc 62) (cond (Nat.beq pc 62) (some (.iinc 2 1, 3)) none) (cond (Nat.beq pc 65) (some (.iinc 3 1, 3)) none)) (cond (Nat.ble pc 68) (cond (Nat.beq pc 68) (some (.goto (-55), 3)) none) (cond (Nat.ble pc 71) (cond (Nat.beq pc 71) (some (.iconst (-1), 1)) none) (cond (Nat.beq pc 72) (some (.ireturn, 1)) none)))))))
set_option maxRecDepth 100000 in
theorem zd53_0 : (List.range' 0 73).all (fun pc => match zI53 pc with | some q => decide (decode (zCode 53) pc = .ok q) | none => true) = true := by decide +kernel
theorem zJ53 {pc : Nat} {q : Jvm.ClassFile.Instr × Nat} (h : zI53 pc = some q) : decode (zCode 53) pc = .ok q := by
  have hb := (z_gd (n := 73) (pc := pc) h).1
  exact z_ck zd53_0 (by omega) (by omega) h
def zI54 (pc : Nat) : Option (Jvm.ClassFile.Instr × Nat) := cond (Nat.ble 21 pc) none (cond (Nat.ble pc 8) (cond (Nat.ble pc 1) (cond (Nat.ble pc 0) (cond (Nat.beq pc 0) (some (.aload_n 0, 1)) none) (cond (Nat.beq pc 1) (some (.getfield 31, 3)) none)) (cond (Nat.ble pc 4) (cond (Nat.beq pc 4) (some (.ifCond .eq 11, 3)) none) (cond (Nat.ble pc 7) (cond (Nat.beq pc 7) (some (.aload_n 0, 1)) none) (cond (Nat.beq pc 8) (some (.getfield 31, 3)) none)))) (cond (Nat.ble pc 15) (cond (Nat.ble pc 11) (cond (Nat.beq pc 11) (some (.iconst 2, 1)) none) (cond (Nat.ble pc 12) (cond (Nat.beq pc 12) (some (.if_icmp .ne 7, 3)) none) (cond (Nat.beq pc 15) (some (.iconst 1, 1)) none))) (cond (Nat.ble pc 16) (cond (Nat.beq pc 16) (some (.goto 4, 3)) none) (cond (Nat.ble pc 19) (cond (Nat.beq pc 19) (some (.iconst 0, 1)) none) (cond (Nat.beq pc 20) (some (.ireturn, 1)) none)))))
set_option maxRecDepth 100000 in
theorem zd54_0 : (List.range' 0 21).all (fun pc => match zI54 pc with | some q => decide (decode (zCode 54) pc = .ok q) | none => true) = true := by decide +kernel
theorem zJ54 {pc : Nat} {q : Jvm.ClassFile.Instr × Nat} (h : zI54 pc = some q) : decode (zCode 54) pc = .ok q := by
  have hb := (z_gd (n := 21) (pc := pc) h).1
  exact z_ck zd54_0 (by omega) (by omega) h
def zI55 (pc : Nat) : Option (Jvm.ClassFile.Instr × Nat) := cond (Nat.ble 49 pc) none (cond (Nat.ble pc 22) (cond (Nat.ble pc 8) (cond (Nat.ble pc 1) (cond (Nat.ble pc 0) (cond (Nat.beq pc 0) (some (.aload_n 0, 1)) none) (cond (Nat.beq pc 1) (some (.invokevirtual 63, 3)) none)) (cond (Nat.ble pc 4) (cond (Nat.beq pc 4) (some (.ifCond .eq 43, 3)) none) (cond (Nat.ble pc 7) (cond (Nat.beq pc 7) (some (.aload_n 0, 1)) none) (cond (Nat.beq pc 8) (some (.getfield 15, 3)) none)))) (cond (Nat.ble pc 16) (cond (Nat.ble pc 11) (cond (Nat.beq pc 11) (some (.bipush 13, 2)) none) (cond (Nat.ble pc 13) (cond (Nat.beq pc 13) (some (.if_icmp .eq 30, 3)) none) (cond (Nat.beq pc 16) (some (.aload_n 0, 1)) none))) (cond (Nat.ble pc 17) (cond (Nat.beq pc 17) (some (.getfield 15, 3)) none) (cond (Nat.ble pc 20) (cond (Nat.beq pc 20) (some (.bipush 14, 2)) none) (cond (Nat.beq pc 22) (some (.if_icmp .eq 21, 3)) none))))) (cond (Nat.ble pc 35) (cond (Nat.ble pc 29) (cond (Nat.ble pc 25) (cond (Nat.beq pc 25) (some (.aload_n 0, 1)) none) (cond (Nat.ble pc 26) (cond (Nat.beq pc 26) (some (.getfield 15, 3)) none) (cond (Nat.beq pc 29) (some (.bipush 19, 2)) none))) (cond (Nat.ble pc 31) (cond (Nat.beq pc 31) (some (.if_icmp .eq 12, 3)) none) (cond (Nat.ble pc 34) (cond (Nat.beq pc 34) (some (.aload_n 0, 1)) none) (cond (Nat.beq pc 35) (some (.getfield 15, 3)) none)))) (cond (Nat.ble pc 43) (cond (Nat.ble pc 38) (cond (Nat.beq pc 38) (some (.bipush 20, 2)) none) (cond (Nat.ble pc 40) (cond (Nat.beq pc 40) (some (.if_icmp .ne 7, 3)) none) (cond (Nat.beq pc 43) (some (.iconst 1, 1)) none))) (cond (Nat.ble pc 44) (cond (Nat.beq pc 44) (some (.goto 4, 3)) none) (cond (Nat.ble pc 47) (cond (Nat.beq pc 47) (some (.iconst 0, 1)) none) (cond (Nat.beq pc 48) (some (.ireturn, 1)) none))))))
set_option maxRecDepth 100000 in
theorem zd55_0 : (List.range' 0 49).all (fun pc => match zI55 pc with | some q => decide (decode (zCode 55) pc = .ok q) | none => true) = true := by decide +kernel
theorem zJ55 {pc : Nat} {q : Jvm.ClassFile.Instr × Nat} (h : zI55 pc = some q) : decode (zCode 55) pc = .ok q := by
  have hb := (z_gd (n := 49) (pc := pc) h).1
  exact z_ck zd55_0 (by omega) (by omega) h
def zI56 (pc : Nat) : Option (Jvm.ClassFile.Instr × Nat) := cond (Nat.ble 13 pc) none (cond (Nat.ble pc 4) (cond (Nat.ble pc 0) (cond (Nat.beq pc 0) (some (.aload_n 0, 1)) none) (cond (Nat.ble pc 1) (cond (Nat.beq pc 1) (some (.getfield 19, 3)) none) (cond (Nat.beq pc 4) (some (.getfield 90, 3)) none))) (cond (Nat.ble pc 8) (cond (Nat.ble pc 7) (cond (Nat.beq pc 7) (some (.iload_n 1, 1)) none) (cond (Nat.beq pc 8) (some (.iload_n 2, 1)) none)) (cond (Nat.ble pc 9) (cond (Nat.beq pc 9) (some (.invokevirtual 94, 3)) none) (cond (Nat.beq pc 12) (some (.ireturn, 1)) none))))
set_option maxRecDepth 100000 in
theorem zd56_0 : (List.range' 0 13).all (fun pc => match zI56 pc with | some q => decide (decode (zCode 56) pc = .ok q) | none => true) = true := by decide +kernel
theorem zJ56 {pc : Nat} {q : Jvm.ClassFile.Instr × Nat} (h : zI56 pc = some q) : decode (zCode 56) pc = .ok q := by
  have hb := (z_gd (n := 13) (pc := pc) h).1
  exact z_ck zd56_0 (by omega) (by omega) h
def zI57 (pc : Nat) : Option (Jvm.ClassFile.Instr × Nat) := cond (Nat.ble 71 pc) none (cond (Nat.ble pc 49) (cond (Nat.ble pc 12) (cond (Nat.ble pc 4) (cond (Nat.ble pc 0) (cond (Nat.beq pc 0) (some (.iload_n 1, 1)) none) (cond (Nat.ble pc 1) (cond (Nat.beq pc 1) (some (.ifCond .lt 18, 3)) none) (cond (Nat.beq pc 4) (some (.iload_n 1, 1)) none))) (cond (Nat.ble pc 6) (cond (Nat.ble pc 5) (cond (Nat.beq pc 5) (some (.aload_n 0, 1)) none) (cond (Nat.beq pc 6) (some (.getfield 24, 3)) none)) (cond (Nat.ble pc 9) (cond (Nat.beq pc 9) (some (.if_icmp .ge 10, 3)) none) (cond (Nat.beq pc 12) (some (.iload_n 1, 1)) none)))) (cond (Nat.ble pc 20) (cond (Nat.ble pc 16) (cond (Nat.ble pc 13) (cond (Nat.beq pc 13) (some (.sipush 200, 3)) none) (cond (Nat.beq pc 16) (some (.if_icmp .lt 5, 3)) none)) (cond (Nat.ble pc 19) (cond (Nat.beq pc 19) (some (.iconst (-1), 1)) none) (cond (Nat.beq pc 20) (some (.ireturn, 1)) none))) (cond (Nat.ble pc 22) (cond (Nat.ble pc 21) (cond (Nat.beq pc 21) (some (.iload_n 2, 1)) none) (cond (Nat.beq pc 22) (some (.tableswitch 47 0 2 #[26, 33, 40], 26)) none)) (cond (Nat.ble pc 48) (cond (Nat.beq pc 48) (some (.aload_n 0, 1)) none) (cond (Nat.beq pc 49) (some (.getfield 9, 3)) none))))) (cond (Nat.ble pc 60) (cond (Nat.ble pc 54) (cond (Nat.ble pc 52) (cond (Nat.beq pc 52) (some (.iload_n 1, 1)) none) (cond (Nat.ble pc 53) (cond (Nat.beq pc 53) (some (.iaload, 1)) none) (cond (Nat.beq pc 54) (some (.ireturn, 1)) none))) (cond (Nat.ble pc 56) (cond (Nat.ble pc 55) (cond (Nat.beq pc 55) (some (.aload_n 0, 1)) none) (cond (Nat.beq pc 56) (some (.getfield 15, 3)) none)) (cond (Nat.ble pc 59) (cond (Nat.beq pc 59) (some (.iload_n 1, 1)) none) (cond (Nat.beq pc 60) (some (.iaload, 1)) none)))) (cond (Nat.ble pc 66) (cond (Nat.ble pc 62) (cond (Nat.ble pc 61) (cond (Nat.beq pc 61) (some (.ireturn, 1)) none) (cond (Nat.beq pc 62) (some (.aload_n 0, 1)) none)) (cond (Nat.ble pc 63) (cond (Nat.beq pc 63) (some (.getfield 18, 3)) none) (cond (Nat.beq pc 66) (some (.iload_n 1, 1)) none))) (cond (Nat.ble pc 68) (cond (Nat.ble pc 67) (cond (Nat.beq pc 67) (some (.iaload, 1)) none) (cond (Nat.beq pc 68) (some (.ireturn, 1)) none)) (cond (Nat.ble pc 69) (cond (Nat.beq pc 69) (some (.iconst (-1), 1)) none) (cond (Nat.beq pc 70) (some (.ireturn, 1)) none))))))
set_option maxRecDepth 100000 in
theorem zd57_0 : (List.range' 0 71).all (fun pc => match zI57 pc with | some q => decide (decode (zCode 57) pc = .ok q) | none => true) = true := by decide +kernel
theorem zJ57 {pc : Nat} {q : Jvm.ClassFile.Instr × Nat} (h : zI57 pc = some q) : decode (zCode 57) pc = .ok q := by
  have hb := (z_gd (n := 71) (pc := pc) h).1
  exact z_ck zd57_0 (by omega) (by omega) h
def zI58 (pc : Nat) : Option (Jvm.ClassFile.Instr × Nat) := cond (Nat.ble 9 pc) none (cond (Nat.ble pc 1) (cond (Nat.ble pc 0) (cond (Nat.beq pc 0) (some (.aload_n 0, 1)) none) (cond (Nat.beq pc 1) (some (.getfield 19, 3)) none)) (cond (Nat.ble pc 4) (cond (Nat.beq pc 4) (some (.lload_n 1, 1)) none) (cond (Nat.ble pc 5) (cond (Nat.beq pc 5) (some (.invokevirtual 100, 3)) none) (cond (Nat.beq pc 8) (some (.ireturn, 1)) none))))
set_option maxRecDepth 100000 in
theorem zd58_0 : (List.range' 0 9).all (fun pc => match zI58 pc with | some q => decide (decode (zCode 58) pc = .ok q) | none => true) = true := by decide +kernel
theorem zJ58 {pc : Nat} {q : Jvm.ClassFile.Instr × Nat} (h : zI58 pc = some q) : decode (zCode 58) pc = .ok q := by
  have hb := (z_gd (n := 9) (pc := pc) h).1
  exact z_ck zd58_0 (by omega) (by omega) h
def zI59 (pc : Nat) : Option (Jvm.ClassFile.Instr × Nat) := cond (Nat.ble 98 pc) none (cond (Nat.ble pc 41) (cond (Nat.ble pc 19) (cond (Nat.ble pc 9) (cond (Nat.ble pc 4) (cond (Nat.ble pc 0) (cond (Nat.beq pc 0) (some (.aload_n 0, 1)) none) (cond (Nat.ble pc 1) (cond (Nat.beq pc 1) (some (.getfield 31, 3)) none) (cond (Nat.beq pc 4) (some (.ifCond .eq 5, 3)) none))) (cond (Nat.ble pc 7) (cond (Nat.beq pc 7) (some (.iconst 0, 1)) none) (cond (Nat.ble pc 8) (cond (Nat.beq pc 8) (some (.ireturn, 1)) none) (cond (Nat.beq pc 9) (some (.iconst 0, 1)) none)))) (cond (Nat.ble pc 12) (cond (Nat.ble pc 10) (cond (Nat.beq pc 10) (some (.istore_n 3, 1)) none) (cond (Nat.ble pc 11) (cond (Nat.beq pc 11) (some (.iload_n 3, 1)) none) (cond (Nat.beq pc 12) (some (.aload_n 0, 1)) none))) (cond (Nat.ble pc 13) (cond (Nat.beq pc 13) (some (.getfield 44, 3)) none) (cond (Nat.ble pc 16) (cond (Nat.beq pc 16) (some (.if_icmp .ge 80, 3)) none) (cond (Nat.beq pc 19) (some (.iload_n 3, 1)) none))))) (cond (Nat.ble pc 29) (cond (Nat.ble pc 24) (cond (Nat.ble pc 20) (cond (Nat.beq pc 20) (some (.aload_n 0, 1)) none) (cond (Nat.ble pc 21) (cond (Nat.beq pc 21) (some (.getfield 27, 3)) none) (cond (Nat.beq pc 24) (some (.arraylength, 1)) none))) (cond (Nat.ble pc 25) (cond (Nat.beq pc 25) (some (.if_icmp .ge 71, 3)) none) (cond (Nat.ble pc 28) (cond (Nat.beq pc 28) (some (.aload_n 0, 1)) none) (cond (Nat.beq pc 29) (some (.getfield 27, 3)) none)))) (cond (Nat.ble pc 34) (cond (Nat.ble pc 32) (cond (Nat.beq pc 32) (some (.iload_n 3, 1)) none) (cond (Nat.ble pc 33) (cond (Nat.beq pc 33) (some (.aaload, 1)) none) (cond (Nat.beq pc 34) (some (.astore 4, 2)) none))) (cond (Nat.ble pc 36) (cond (Nat.beq pc 36) (some (.aload 4, 2)) none) (cond (Nat.ble pc 38) (cond (Nat.beq pc 38) (some (.ifnull 52, 3)) none) (cond (Nat.beq pc 41) (some (.aload 4, 2)) none)))))) (cond (Nat.ble pc 70) (cond (Nat.ble pc 56) (cond (Nat.ble pc 48) (cond (Nat.ble pc 43) (cond (Nat.beq pc 43) (some (.getfield 86, 3)) none) (cond (Nat.ble pc 46) (cond (Nat.beq pc 46) (some (.bipush 20, 2)) none) (cond (Nat.beq pc 48) (some (.if_icmp .ne 42, 3)) none))) (cond (Nat.ble pc 51) (cond (Nat.beq pc 51) (some (.aload 4, 2)) none) (cond (Nat.ble pc 53) (cond (Nat.beq pc 53) (some (.invokevirtual 206, 3)) none) (cond (Nat.beq pc 56) (some (.ifCond .eq 34, 3)) none)))) (cond (Nat.ble pc 64) (cond (Nat.ble pc 59) (cond (Nat.beq pc 59) (some (.aload 4, 2)) none) (cond (Nat.ble pc 61) (cond (Nat.beq pc 61) (some (.getfield 160, 3)) none) (cond (Nat.beq pc 64) (some (.ifCond .ne 26, 3)) none))) (cond (Nat.ble pc 67) (cond (Nat.beq pc 67) (some (.aload 4, 2)) none) (cond (Nat.ble pc 69) (cond (Nat.beq pc 69) (some (.iconst 1, 1)) none) (cond (Nat.beq pc 70) (some (.putfield 160, 3)) none))))) (cond (Nat.ble pc 85) (cond (Nat.ble pc 77) (cond (Nat.ble pc 73) (cond (Nat.beq pc 73) (some (.aload_n 0, 1)) none) (cond (Nat.ble pc 74) (cond (Nat.beq pc 74) (some (.getfield 12, 3)) none) (cond (Nat.beq pc 77) (some (.getfield 144, 3)) none))) (cond (Nat.ble pc 80) (cond (Nat.beq pc 80) (some (.aload 4, 2)) none) (cond (Nat.ble pc 82) (cond (Nat.beq pc 82) (some (.getfield 133, 3)) none) (cond (Nat.beq pc 85) (some (.lload_n 1, 1)) none)))) (cond (Nat.ble pc 90) (cond (Nat.ble pc 86) (cond (Nat.beq pc 86) (some (.invokestatic 140, 3)) none) (cond (Nat.ble pc 89) (cond (Nat.beq pc 89) (some (.ireturn, 1)) none) (cond (Nat.beq pc 90) (some (.iinc 3 1, 3)) none))) (cond (Nat.ble pc 93) (cond (Nat.beq pc 93) (some (.goto (-82), 3)) none) (cond (Nat.ble pc 96) (cond (Nat.beq pc 96) (some (.iconst 0, 1)) none) (cond (Nat.beq pc 97) (some (.ireturn, 1)) none)))))))
set_option maxRecDepth 100000 in
theorem zd59_0 : (List.range' 0 82).all (fun pc => match zI59 pc with | some q => decide (decode (zCode 59) pc = .ok q) | none => true) = true := by decide +kernel
set_option maxRecDepth 100000 in
theorem zd59_1 : (List.range' 82 16).all (fun pc => match zI59 pc with | some q => decide (decode (zCode 59) pc = .ok q) | none => true) = true := by decide +kernel
theorem zJ59 {pc : Nat} {q : Jvm.ClassFile.Instr × Nat} (h : zI59 pc = some q) : decode (zCode 59) pc = .ok q := by
  have hb := (z_gd (n := 98) (pc := pc) h).1
  by_cases c0 : pc < 82
  · exact z_ck zd59_0 (by omega) (by omega) h
  exact z_ck zd59_1 (by omega) (by omega) h
def zI60 (pc : Nat) : Option (Jvm.ClassFile.Instr × Nat) := cond (Nat.ble 9 pc) none (cond (Nat.ble pc 1) (cond (Nat.ble pc 0) (cond (Nat.beq pc 0) (some (.aload_n 0, 1)) none) (cond (Nat.beq pc 1) (some (.getfield 19, 3)) none)) (cond (Nat.ble pc 4) (cond (Nat.beq pc 4) (some (.iload_n 1, 1)) none) (cond (Nat.ble pc 5) (cond (Nat.beq pc 5) (some (.invokevirtual 104, 3)) none) (cond (Nat.beq pc 8) (some (.ireturn, 1)) none))))
set_option maxRecDepth 100000 in
theorem zd60_0 : (List.range' 0 9).all (fun pc => match zI60 pc with | some q => decide (decode (zCode 60) pc = .ok q) | none => true) = true := by decide +kernel
theorem zJ60 {pc : Nat} {q : Jvm.ClassFile.Instr × Nat} (h : zI60 pc = some q) : decode (zCode 60) pc = .ok q := by
  have hb := (z_gd (n := 9) (pc := pc) h).1
  exact z_ck zd60_0 (by omega) (by omega) h
def zI61 (pc : Nat) : Option (Jvm.ClassFile.Instr × Nat) := cond (Nat.ble 40 pc) none (cond (Nat.ble pc 19) (cond (Nat.ble pc 9) (cond (Nat.ble pc 4) (cond (Nat.ble pc 0) (cond (Nat.beq pc 0) (some (.aload_n 0, 1)) none) (cond (Nat.ble pc 1) (cond (Nat.beq pc 1) (some (.invokevirtual 203, 3)) none) (cond (Nat.beq pc 4) (some (.ifCond .ne 5, 3)) none))) (cond (Nat.ble pc 7) (cond (Nat.beq pc 7) (some (.iconst 0, 1)) none) (cond (Nat.ble pc 8) (cond (Nat.beq pc 8) (some (.ireturn, 1)) none) (cond (Nat.beq pc 9) (some (.iload_n 1, 1)) none)))) (cond (Nat.ble pc 14) (cond (Nat.ble pc 10) (cond (Nat.beq pc 10) (some (.ifCond .eq 7, 3)) none) (cond (Nat.ble pc 13) (cond (Nat.beq pc 13) (some (.iconst 2, 1)) none) (cond (Nat.beq pc 14) (some (.goto 4, 3)) none))) (cond (Nat.ble pc 17) (cond (Nat.beq pc 17) (some (.iconst 0, 1)) none) (cond (Nat.ble pc 18) (cond (Nat.beq pc 18) (some (.istore_n 2, 1)) none) (cond (Nat.beq pc 19) (some (.aload_n 0, 1)) none))))) (cond (Nat.ble pc 31) (cond (Nat.ble pc 24) (cond (Nat.ble pc 20) (cond (Nat.beq pc 20) (some (.getfield 31, 3)) none) (cond (Nat.ble pc 23) (cond (Nat.beq pc 23) (some (.iload_n 2, 1)) none) (cond (Nat.beq pc 24) (some (.if_icmp .eq 7, 3)) none))) (cond (Nat.ble pc 27) (cond (Nat.beq pc 27) (some (.iconst 1, 1)) none) (cond (Nat.ble pc 28) (cond (Nat.beq pc 28) (some (.goto 4, 3)) none) (cond (Nat.beq pc 31) (some (.iconst 0, 1)) none)))) (cond (Nat.ble pc 34) (cond (Nat.ble pc 32) (cond (Nat.beq pc 32) (some (.istore_n 3, 1)) none) (cond (Nat.ble pc 33) (cond (Nat.beq pc 33) (some (.aload_n 0, 1)) none) (cond (Nat.beq pc 34) (some (.iload_n 2, 1)) none))) (cond (Nat.ble pc 35) (cond (Nat.beq pc 35) (some (.putfield 31, 3)) none) (cond (Nat.ble pc 38) (cond (Nat.beq pc 38) (some (.iload_n 3, 1)) none) (cond (Nat.beq pc 39) (some (.ireturn, 1)) none))))))
set_option maxRecDepth 100000 in
theorem zd61_0 : (List.range' 0 40).all (fun pc => match zI61 pc with | some q => decide (decode (zCode 61) pc = .ok q) | none => true) = true := by decide +kernel
theorem zJ61 {pc : Nat} {q : Jvm.ClassFile.Instr × Nat} (h : zI61 pc = some q) : decode (zCode 61) pc = .ok q := by
  have hb := (z_gd (n := 40) (pc := pc) h).1
  exact z_ck zd61_0 (by omega) (by omega) h
def zI62 (pc : Nat) : Option (Jvm.ClassFile.Instr × Nat) := cond (Nat.ble 8 pc) none (cond (Nat.ble pc 1) (cond (Nat.ble pc 0) (cond (Nat.beq pc 0) (some (.aload_n 0, 1)) none) (cond (Nat.beq pc 1) (some (.getfield 19, 3)) none)) (cond (Nat.ble pc 4) (cond (Nat.beq pc 4) (some (.invokevirtual 108, 3)) none) (cond (Nat.beq pc 7) (some (.ireturn, 1)) none)))
set_option maxRecDepth 100000 in
theorem zd62_0 : (List.range' 0 8).all (fun pc => match zI62 pc with | some q => decide (decode (zCode 62) pc = .ok q) | none => true) = true := by decide +kernel
theorem zJ62 {pc : Nat} {q : Jvm.ClassFile.Instr × Nat} (h : zI62 pc = some q) : decode (zCode 62) pc = .ok q := by
  have hb := (z_gd (n := 8) (pc := pc) h).1
  exact z_ck zd62_0 (by omega) (by omega) h
def zI63 (pc : Nat) : Option (Jvm.ClassFile.Instr × Nat) := cond (Nat.ble 40 pc) none (cond (Nat.ble pc 18) (cond (Nat.ble pc 8) (cond (Nat.ble pc 1) (cond (Nat.ble pc 0) (cond (Nat.beq pc 0) (some (.aload_n 0, 1)) none) (cond (Nat.beq pc 1) (some (.invokevirtual 203, 3)) none)) (cond (Nat.ble pc 4) (cond (Nat.beq pc 4) (some (.ifCond .ne 5, 3)) none) (cond (Nat.ble pc 7) (cond (Nat.beq pc 7) (some (.iconst (-1), 1)) none) (cond (Nat.beq pc 8) (some (.ireturn, 1)) none)))) (cond (Nat.ble pc 13) (cond (Nat.ble pc 9) (cond (Nat.beq pc 9) (some (.aload_n 0, 1)) none) (cond (Nat.ble pc 10) (cond (Nat.beq pc 10) (some (.getfield 21, 3)) none) (cond (Nat.beq pc 13) (some (.getfield 209, 3)) none))) (cond (Nat.ble pc 16) (cond (Nat.beq pc 16) (some (.istore_n 1, 1)) none) (cond (Nat.ble pc 17) (cond (Nat.beq pc 17) (some (.aload_n 0, 1)) none) (cond (Nat.beq pc 18) (some (.aload_n 0, 1)) none))))) (cond (Nat.ble pc 27) (cond (Nat.ble pc 22) (cond (Nat.ble pc 19) (cond (Nat.beq pc 19) (some (.getfield 51, 3)) none) (cond (Nat.beq pc 22) (some (.invokevirtual 106, 3)) none)) (cond (Nat.ble pc 25) (cond (Nat.beq pc 25) (some (.aload_n 0, 1)) none) (cond (Nat.ble pc 26) (cond (Nat.beq pc 26) (some (.iconst 3, 1)) none) (cond (Nat.beq pc 27) (some (.putfield 31, 3)) none)))) (cond (Nat.ble pc 34) (cond (Nat.ble pc 30) (cond (Nat.beq pc 30) (some (.aload_n 0, 1)) none) (cond (Nat.ble pc 31) (cond (Nat.beq pc 31) (some (.getfield 21, 3)) none) (cond (Nat.beq pc 34) (some (.getfield 209, 3)) none))) (cond (Nat.ble pc 37) (cond (Nat.beq pc 37) (some (.iload_n 1, 1)) none) (cond (Nat.ble pc 38) (cond (Nat.beq pc 38) (some (.isub, 1)) none) (cond (Nat.beq pc 39) (some (.ireturn, 1)) none))))))
set_option maxRecDepth 100000 in
theorem zd63_0 : (List.range' 0 40).all (fun pc => match zI63 pc with | some q => decide (decode (zCode 63) pc = .ok q) | none => true) = true := by decide +kernel
theorem zJ63 {pc : Nat} {q : Jvm.ClassFile.Instr × Nat} (h : zI63 pc = some q) : decode (zCode 63) pc = .ok q := by
  have hb := (z_gd (n := 40) (pc := pc) h).1
  exact z_ck zd63_0 (by omega) (by omega) h
def zI64 (pc : Nat) : Option (Jvm.ClassFile.Instr × Nat) := cond (Nat.ble 12 pc) none (cond (Nat.ble pc 4) (cond (Nat.ble pc 0) (cond (Nat.beq pc 0) (some (.aload_n 0, 1)) none) (cond (Nat.ble pc 1) (cond (Nat.beq pc 1) (some (.getfield 19, 3)) none) (cond (Nat.beq pc 4) (some (.getfield 90, 3)) none))) (cond (Nat.ble pc 7) (cond (Nat.beq pc 7) (some (.iload_n 1, 1)) none) (cond (Nat.ble pc 8) (cond (Nat.beq pc 8) (some (.invokevirtual 112, 3)) none) (cond (Nat.beq pc 11) (some (.ireturn, 1)) none))))
set_option maxRecDepth 100000 in
theorem zd64_0 : (List.range' 0 12).all (fun pc => match zI64 pc with | some q => decide (decode (zCode 64) pc = .ok q) | none => true) = true := by decide +kernel
theorem zJ64 {pc : Nat} {q : Jvm.ClassFile.Instr × Nat} (h : zI64 pc = some q) : decode (zCode 64) pc = .ok q := by
  have hb := (z_gd (n := 12) (pc := pc) h).1
  exact z_ck zd64_0 (by omega) (by omega) h
def zI65 (pc : Nat) : Option (Jvm.ClassFile.Instr × Nat) := cond (Nat.ble 32 pc) none (cond (Nat.ble pc 14) (cond (Nat.ble pc 5) (cond (Nat.ble pc 1) (cond (Nat.ble pc 0) (cond (Nat.beq pc 0) (some (.iload_n 1, 1)) none) (cond (Nat.beq pc 1) (some (.ifCond .lt 29, 3)) none)) (cond (Nat.ble pc 4) (cond (Nat.beq pc 4) (some (.iload_n 1, 1)) none) (cond (Nat.beq pc 5) (some (.aload_n 0, 1)) none))) (cond (Nat.ble pc 9) (cond (Nat.ble pc 6) (cond (Nat.beq pc 6) (some (.getfield 28, 3)) none) (cond (Nat.beq pc 9) (some (.if_icmp .ge 21, 3)) none)) (cond (Nat.ble pc 12) (cond (Nat.beq pc 12) (some (.iload_n 1, 1)) none) (cond (Nat.ble pc 13) (cond (Nat.beq pc 13) (some (.aload_n 0, 1)) none) (cond (Nat.beq pc 14) (some (.getfield 21, 3)) none))))) (cond (Nat.ble pc 22) (cond (Nat.ble pc 18) (cond (Nat.ble pc 17) (cond (Nat.beq pc 17) (some (.arraylength, 1)) none) (cond (Nat.beq pc 18) (some (.if_icmp .ge 12, 3)) none)) (cond (Nat.ble pc 21) (cond (Nat.beq pc 21) (some (.aload_n 0, 1)) none) (cond (Nat.beq pc 22) (some (.getfield 21, 3)) none))) (cond (Nat.ble pc 26) (cond (Nat.ble pc 25) (cond (Nat.beq pc 25) (some (.iload_n 1, 1)) none) (cond (Nat.beq pc 26) (some (.iaload, 1)) none)) (cond (Nat.ble pc 27) (cond (Nat.beq pc 27) (some (.goto 4, 3)) none) (cond (Nat.ble pc 30) (cond (Nat.beq pc 30) (some (.iconst (-1), 1)) none) (cond (Nat.beq pc 31) (some (.ireturn, 1)) none))))))
set_option maxRecDepth 100000 in
theorem zd65_0 : (List.range' 0 32).all (fun pc => match zI65 pc with | some q => decide (decode (zCode 65) pc = .ok q) | none => true) = true := by decide +kernel
theorem zJ65 {pc : Nat} {q : Jvm.ClassFile.Instr × Nat} (h : zI65 pc = some q) : decode (zCode 65) pc = .ok q := by
  have hb := (z_gd (n := 32) (pc := pc) h).1
  exact z_ck zd65_0 (by omega) (by omega) h
def zI66 (pc : Nat) : Option (Jvm.ClassFile.Instr × Nat) := cond (Nat.ble 15 pc) none (cond (Nat.ble pc 4) (cond (Nat.ble pc 0) (cond (Nat.beq pc 0) (some (.aload_n 0, 1)) none) (cond (Nat.ble pc 1) (cond (Nat.beq pc 1) (some (.getfield 19, 3)) none) (cond (Nat.beq pc 4) (some (.getfield 31, 3)) none))) (cond (Nat.ble pc 10) (cond (Nat.ble pc 7) (cond (Nat.beq pc 7) (some (.getfield 115, 3)) none) (cond (Nat.beq pc 10) (some (.iload_n 1, 1)) none)) (cond (Nat.ble pc 11) (cond (Nat.beq pc 11) (some (.invokestatic 79, 3)) none) (cond (Nat.beq pc 14) (some (.lreturn, 1)) none))))
set_option maxRecDepth 100000 in
theorem zd66_0 : (List.range' 0 15).all (fun pc => match zI66 pc with | some q => decide (decode (zCode 66) pc = .ok q) | none => true) = true := by decide +kernel
theorem zJ66 {pc : Nat} {q : Jvm.ClassFile.Instr × Nat} (h : zI66 pc = some q) : decode (zCode 66) pc = .ok q := by
  have hb := (z_gd (n := 15) (pc := pc) h).1
  exact z_ck zd66_0 (by omega) (by omega) h
def zI67 (pc : Nat) : Option (Jvm.ClassFile.Instr × Nat) := cond (Nat.ble 13 pc) none (cond (Nat.ble pc 4) (cond (Nat.ble pc 0) (cond (Nat.beq pc 0) (some (.aload_n 0, 1)) none) (cond (Nat.ble pc 1) (cond (Nat.beq pc 1) (some (.getfield 19, 3)) none) (cond (Nat.beq pc 4) (some (.getfield 31, 3)) none))) (cond (Nat.ble pc 8) (cond (Nat.ble pc 7) (cond (Nat.beq pc 7) (some (.iload_n 1, 1)) none) (cond (Nat.beq pc 8) (some (.lload_n 2, 1)) none)) (cond (Nat.ble pc 9) (cond (Nat.beq pc 9) (some (.invokevirtual 118, 3)) none) (cond (Nat.beq pc 12) (some (.ireturn, 1)) none))))
set_option maxRecDepth 100000 in
theorem zd67_0 : (List.range' 0 13).all (fun pc => match zI67 pc with | some q => decide (decode (zCode 67) pc = .ok q) | none => true) = true := by decide +kernel
theorem zJ67 {pc : Nat} {q : Jvm.ClassFile.Instr × Nat} (h : zI67 pc = some q) : decode (zCode 67) pc = .ok q := by
  have hb := (z_gd (n := 13) (pc := pc) h).1
  exact z_ck zd67_0 (by omega) (by omega) h
def zI68 (pc : Nat) : Option (Jvm.ClassFile.Instr × Nat) := cond (Nat.ble 32 pc) none (cond (Nat.ble pc 15) (cond (Nat.ble pc 6) (cond (Nat.ble pc 1) (cond (Nat.ble pc 0) (cond (Nat.beq pc 0) (some (.iload_n 1, 1)) none) (cond (Nat.beq pc 1) (some (.ifCond .lt 12, 3)) none)) (cond (Nat.ble pc 4) (cond (Nat.beq pc 4) (some (.iload_n 1, 1)) none) (cond (Nat.ble pc 5) (cond (Nat.beq pc 5) (some (.aload_n 0, 1)) none) (cond (Nat.beq pc 6) (some (.getfield 24, 3)) none)))) (cond (Nat.ble pc 10) (cond (Nat.ble pc 9) (cond (Nat.beq pc 9) (some (.arraylength, 1)) none) (cond (Nat.beq pc 10) (some (.if_icmp .lt 5, 3)) none)) (cond (Nat.ble pc 13) (cond (Nat.beq pc 13) (some (.iconst 0, 1)) none) (cond (Nat.ble pc 14) (cond (Nat.beq pc 14) (some (.ireturn, 1)) none) (cond (Nat.beq pc 15) (some (.aload_n 0, 1)) none))))) (cond (Nat.ble pc 22) (cond (Nat.ble pc 19) (cond (Nat.ble pc 16) (cond (Nat.beq pc 16) (some (.getfield 24, 3)) none) (cond (Nat.beq pc 19) (some (.iload_n 1, 1)) none)) (cond (Nat.ble pc 20) (cond (Nat.beq pc 20) (some (.iconst 1, 1)) none) (cond (Nat.ble pc 21) (cond (Nat.beq pc 21) (some (.bastore, 1)) none) (cond (Nat.beq pc 22) (some (.aload_n 0, 1)) none)))) (cond (Nat.ble pc 26) (cond (Nat.ble pc 23) (cond (Nat.beq pc 23) (some (.getfield 21, 3)) none) (cond (Nat.beq pc 26) (some (.iload_n 1, 1)) none)) (cond (Nat.ble pc 27) (cond (Nat.beq pc 27) (some (.lload_n 2, 1)) none) (cond (Nat.ble pc 28) (cond (Nat.beq pc 28) (some (.invokestatic 34, 3)) none) (cond (Nat.beq pc 31) (some (.ireturn, 1)) none))))))
set_option maxRecDepth 100000 in
theorem zd68_0 : (List.range' 0 32).all (fun pc => match zI68 pc with | some q => decide (decode (zCode 68) pc = .ok q) | none => true) = true := by decide +kernel
theorem zJ68 {pc : Nat} {q : Jvm.ClassFile.Instr × Nat} (h : zI68 pc = some q) : decode (zCode 68) pc = .ok q := by
  have hb := (z_gd (n := 32) (pc := pc) h).1
  exact z_ck zd68_0 (by omega) (by omega) h
end
section
/-! decoded code, by program (wip/whole/gen2.py) -/
def zI69 (pc : Nat) : Option (Jvm.ClassFile.Instr × Nat) := cond (Nat.ble 248 pc) none (cond (Nat.ble pc 125) (cond (Nat.ble pc 59) (cond (Nat.ble pc 28) (cond (Nat.ble pc 13) (cond (Nat.ble pc 4) (cond (Nat.ble pc 0) (cond (Nat.beq pc 0) (some (.aload_n 0, 1)) none) (cond (Nat.ble pc 1) (cond (Nat.beq pc 1) (some (.invokespecial 1, 3)) none) (cond (Nat.beq pc 4) (some (.aload_n 0, 1)) none))) (cond (Nat.ble pc 8) (cond (Nat.ble pc 5) (cond (Nat.beq pc 5) (some (.sipush 200, 3)) none) (cond (Nat.beq pc 8) (some (.newarray .int, 2)) none)) (cond (Nat.ble pc 10) (cond (Nat.beq pc 10) (some (.putfield 9, 3)) none) (cond (Nat.beq pc 13) (some (.aload_n 0, 1)) none)))) (cond (Nat.ble pc 19) (cond (Nat.ble pc 14) (cond (Nat.beq pc 14) (some (.sipush 200, 3)) none) (cond (Nat.ble pc 17) (cond (Nat.beq pc 17) (some (.newarray .int, 2)) none) (cond (Nat.beq pc 19) (some (.putfield 13, 3)) none))) (cond (Nat.ble pc 23) (cond (Nat.ble pc 22) (cond (Nat.beq pc 22) (some (.aload_n 0, 1)) none) (cond (Nat.beq pc 23) (some (.sipush 200, 3)) none)) (cond (Nat.ble pc 26) (cond (Nat.beq pc 26) (some (.newarray .int, 2)) none) (cond (Nat.beq pc 28) (some (.putfield 16, 3)) none))))) (cond (Nat.ble pc 44) (cond (Nat.ble pc 35) (cond (Nat.ble pc 31) (cond (Nat.beq pc 31) (some (.aload_n 0, 1)) none) (cond (Nat.ble pc 32) (cond (Nat.beq pc 32) (some (.sipush 200, 3)) none) (cond (Nat.beq pc 35) (some (.newarray .int, 2)) none))) (cond (Nat.ble pc 40) (cond (Nat.ble pc 37) (cond (Nat.beq pc 37) (some (.putfield 19, 3)) none) (cond (Nat.beq pc 40) (some (.aload_n 0, 1)) none)) (cond (Nat.ble pc 41) (cond (Nat.beq pc 41) (some (.sipush 200, 3)) none) (cond (Nat.beq pc 44) (some (.newarray .long, 2)) none)))) (cond (Nat.ble pc 50) (cond (Nat.ble pc 46) (cond (Nat.beq pc 46) (some (.putfield 22, 3)) none) (cond (Nat.ble pc 49) (cond (Nat.beq pc 49) (some (.aload_n 0, 1)) none) (cond (Nat.beq pc 50) (some (.sipush 200, 3)) none))) (cond (Nat.ble pc 55) (cond (Nat.ble pc 53) (cond (Nat.beq pc 53) (some (.newarray .int, 2)) none) (cond (Nat.beq pc 55) (some (.putfield 26, 3)) none)) (cond (Nat.ble pc 58) (cond (Nat.beq pc 58) (some (.aload_n 0, 1)) none) (cond (Nat.beq pc 59) (some (.sipush 200, 3)) none)))))) (cond (Nat.ble pc 91) (cond (Nat.ble pc 76) (cond (Nat.ble pc 67) (cond (Nat.ble pc 62) (cond (Nat.beq pc 62) (some (.newarray .int, 2)) none) (cond (Nat.ble pc 64) (cond (Nat.beq pc 64) (some (.putfield 29, 3)) none) (cond (Nat.beq pc 67) (some (.aload_n 0, 1)) none))) (cond (Nat.ble pc 71) (cond (Nat.ble pc 68) (cond (Nat.beq pc 68) (some (.sipush 200, 3)) none) (cond (Nat.beq pc 71) (some (.newarray .boolean, 2)) none)) (cond (Nat.ble pc 73) (cond (Nat.beq pc 73) (some (.putfield 32, 3)) none) (cond (Nat.beq pc 76) (some (.aload_n 0, 1)) none)))) (cond (Nat.ble pc 82) (cond (Nat.ble pc 77) (cond (Nat.beq pc 77) (some (.sipush 500, 3)) none) (cond (Nat.ble pc 80) (cond (Nat.beq pc 80) (some (.newarray .int, 2)) none) (cond (Nat.beq pc 82) (some (.putfield 36, 3)) none))) (cond (Nat.ble pc 86) (cond (Nat.ble pc 85) (cond (Nat.beq pc 85) (some (.aload_n 0, 1)) none) (cond (Nat.beq pc 86) (some (.sipush 500, 3)) none)) (cond (Nat.ble pc 89) (cond (Nat.beq pc 89) (some (.newarray .int, 2)) none) (cond (Nat.beq pc 91) (some (.putfield 39, 3)) none))))) (cond (Nat.ble pc 107) (cond (Nat.ble pc 98) (cond (Nat.ble pc 94) (cond (Nat.beq pc 94) (some (.aload_n 0, 1)) none) (cond (Nat.ble pc 95) (cond (Nat.beq pc 95) (some (.sipush 500, 3)) none) (cond (Nat.beq pc 98) (some (.newarray .int, 2)) none))) (cond (Nat.ble pc 103) (cond (Nat.ble pc 100) (cond (Nat.beq pc 100) (some (.putfield 42, 3)) none) (cond (Nat.beq pc 103) (some (.aload_n 0, 1)) none)) (cond (Nat.ble pc 104) (cond (Nat.beq pc 104) (some (.sipush 500, 3)) none) (cond (Nat.beq pc 107) (some (.newarray .boolean, 2)) none)))) (cond (Nat.ble pc 116) (cond (Nat.ble pc 112) (cond (Nat.ble pc 109) (cond (Nat.beq pc 109) (some (.putfield 45, 3)) none) (cond (Nat.beq pc 112) (some (.aload_n 0, 1)) none)) (cond (Nat.ble pc 113) (cond (Nat.beq pc 113) (some (.sipush 500, 3)) none) (cond (Nat.beq pc 116) (some (.newarray .int, 2)) none))) (cond (Nat.ble pc 121) (cond (Nat.ble pc 118) (cond (Nat.beq pc 118) (some (.putfield 48, 3)) none) (cond (Nat.beq pc 121) (some (.aload_n 0, 1)) none)) (cond (Nat.ble pc 122) (cond (Nat.beq pc 122) (some (.sipush 500, 3)) none) (cond (Nat.beq pc 125) (some (.newarray .long, 2)) none))))))) (cond (Nat.ble pc 184) (cond (Nat.ble pc 157) (cond (Nat.ble pc 140) (cond (Nat.ble pc 131) (cond (Nat.ble pc 127) (cond (Nat.beq pc 127) (some (.putfield 51, 3)) none) (cond (Nat.ble pc 130) (cond (Nat.beq pc 130) (some (.aload_n 0, 1)) none) (cond (Nat.beq pc 131) (some (.sipush 500, 3)) none))) (cond (Nat.ble pc 136) (cond (Nat.ble pc 134) (cond (Nat.beq pc 134) (some (.newarray .long, 2)) none) (cond (Nat.beq pc 136) (some (.putfield 54, 3)) none)) (cond (Nat.ble pc 139) (cond (Nat.beq pc 139) (some (.aload_n 0, 1)) none) (cond (Nat.beq pc 140) (some (.sipush 500, 3)) none)))) (cond (Nat.ble pc 148) (cond (Nat.ble pc 143) (cond (Nat.beq pc 143) (some (.newarray .long, 2)) none) (cond (Nat.ble pc 145) (cond (Nat.beq pc 145) (some (.putfield 57, 3)) none) (cond (Nat.beq pc 148) (some (.aload_n 0, 1)) none))) (cond (Nat.ble pc 152) (cond (Nat.ble pc 149) (cond (Nat.beq pc 149) (some (.sipush 500, 3)) none) (cond (Nat.beq pc 152) (some (.newarray .long, 2)) none)) (cond (Nat.ble pc 154) (cond (Nat.beq pc 154) (some (.putfield 60, 3)) none) (cond (Nat.beq pc 157) (some (.aload_n 0, 1)) none))))) (cond (Nat.ble pc 170) (cond (Nat.ble pc 162) (cond (Nat.ble pc 158) (cond (Nat.beq pc 158) (some (.bipush 16, 2)) none) (cond (Nat.ble pc 160) (cond (Nat.beq pc 160) (some (.newarray .long, 2)) none) (cond (Nat.beq pc 162) (some (.putfield 63, 3)) none))) (cond (Nat.ble pc 166) (cond (Nat.ble pc 165) (cond (Nat.beq pc 165) (some (.aload_n 0, 1)) none) (cond (Nat.beq pc 166) (some (.bipush 16, 2)) none)) (cond (Nat.ble pc 168) (cond (Nat.beq pc 168) (some (.newarray .long, 2)) none) (cond (Nat.beq pc 170) (some (.putfield 66, 3)) none)))) (cond (Nat.ble pc 176) (cond (Nat.ble pc 173) (cond (Nat.beq pc 173) (some (.aload_n 0, 1)) none) (cond (Nat.ble pc 174) (cond (Nat.beq pc 174) (some (.bipush 16, 2)) none) (cond (Nat.beq pc 176) (some (.newarray .long, 2)) none))) (cond (Nat.ble pc 181) (cond (Nat.ble pc 178) (cond (Nat.beq pc 178) (some (.putfield 69, 3)) none) (cond (Nat.beq pc 181) (some (.aload_n 0, 1)) none)) (cond (Nat.ble pc 182) (cond (Nat.beq pc 182) (some (.bipush 16, 2)) none) (cond (Nat.beq pc 184) (some (.newarray .long, 2)) none)))))) (cond (Nat.ble pc 212) (cond (Nat.ble pc 198) (cond (Nat.ble pc 190) (cond (Nat.ble pc 186) (cond (Nat.beq pc 186) (some (.putfield 72, 3)) none) (cond (Nat.ble pc 189) (cond (Nat.beq pc 189) (some (.aload_n 0, 1)) none) (cond (Nat.beq pc 190) (some (.bipush 16, 2)) none))) (cond (Nat.ble pc 194) (cond (Nat.ble pc 192) (cond (Nat.beq pc 192) (some (.newarray .boolean, 2)) none) (cond (Nat.beq pc 194) (some (.putfield 75, 3)) none)) (cond (Nat.ble pc 197) (cond (Nat.beq pc 197) (some (.aload_n 0, 1)) none) (cond (Nat.beq pc 198) (some (.iconst (-1), 1)) none)))) (cond (Nat.ble pc 203) (cond (Nat.ble pc 199) (cond (Nat.beq pc 199) (some (.putfield 78, 3)) none) (cond (Nat.ble pc 202) (cond (Nat.beq pc 202) (some (.aload_n 0, 1)) none) (cond (Nat.beq pc 203) (some (.sipush 200, 3)) none))) (cond (Nat.ble pc 208) (cond (Nat.ble pc 206) (cond (Nat.beq pc 206) (some (.newarray .int, 2)) none) (cond (Nat.beq pc 208) (some (.putfield 82, 3)) none)) (cond (Nat.ble pc 211) (cond (Nat.beq pc 211) (some (.aload_n 0, 1)) none) (cond (Nat.beq pc 212) (some (.sipush 200, 3)) none))))) (cond (Nat.ble pc 229) (cond (Nat.ble pc 220) (cond (Nat.ble pc 215) (cond (Nat.beq pc 215) (some (.newarray .int, 2)) none) (cond (Nat.ble pc 217) (cond (Nat.beq pc 217) (some (.putfield 85, 3)) none) (cond (Nat.beq pc 220) (some (.aload_n 0, 1)) none))) (cond (Nat.ble pc 224) (cond (Nat.ble pc 221) (cond (Nat.beq pc 221) (some (.sipush 200, 3)) none) (cond (Nat.beq pc 224) (some (.newarray .int, 2)) none)) (cond (Nat.ble pc 226) (cond (Nat.beq pc 226) (some (.putfield 88, 3)) none) (cond (Nat.beq pc 229) (some (.aload_n 0, 1)) none)))) (cond (Nat.ble pc 238) (cond (Nat.ble pc 233) (cond (Nat.ble pc 230) (cond (Nat.beq pc 230) (some (.sipush 200, 3)) none) (cond (Nat.beq pc 233) (some (.newarray .int, 2)) none)) (cond (Nat.ble pc 235) (cond (Nat.beq pc 235) (some (.putfield 91, 3)) none) (cond (Nat.beq pc 238) (some (.aload_n 0, 1)) none))) (cond (Nat.ble pc 242) (cond (Nat.ble pc 239) (cond (Nat.beq pc 239) (some (.sipush 200, 3)) none) (cond (Nat.beq pc 242) (some (.newarray .int, 2)) none)) (cond (Nat.ble pc 244) (cond (Nat.beq pc 244) (some (.putfield 94, 3)) none) (cond (Nat.beq pc 247) (some (.return_, 1)) none))))))))
set_option maxRecDepth 100000 in
theorem zd69_0 : (List.range' 0 89).all (fun pc => match zI69 pc with | some q => decide (decode (zCode 69) pc = .ok q) | none => true) = true := by decide +kernel
set_option maxRecDepth 100000 in
theorem zd69_1 : (List.range' 89 87).all (fun pc => match zI69 pc with | some q => decide (decode (zCode 69) pc = .ok q) | none => true) = true := by decide +kernel
set_option maxRecDepth 100000 in
theorem zd69_2 : (List.range' 176 72).all (fun pc => match zI69 pc with | some q => decide (decode (zCode 69) pc = .ok q) | none => true) = true := by decide +kernel
theorem zJ69 {pc : Nat} {q : Jvm.ClassFile.Instr × Nat} (h : zI69 pc = some q) : decode (zCode 69) pc = .ok q := by
  have hb := (z_gd (n := 248) (pc := pc) h).1
  by_cases c0 : pc < 89
  · exact z_ck zd69_0 (by omega) (by omega) h
  by_cases c1 : pc < 176
  · exact z_ck zd69_1 (by omega) (by omega) h
  exact z_ck zd69_2 (by omega) (by omega) h
def zI70 (pc : Nat) : Option (Jvm.ClassFile.Instr × Nat) := cond (Nat.ble 63 pc) none (cond (Nat.ble pc 30) (cond (Nat.ble pc 14) (cond (Nat.ble pc 5) (cond (Nat.ble pc 1) (cond (Nat.ble pc 0) (cond (Nat.beq pc 0) (some (.iload_n 1, 1)) none) (cond (Nat.beq pc 1) (some (.ifCond .lt 32, 3)) none)) (cond (Nat.ble pc 4) (cond (Nat.beq pc 4) (some (.iload_n 1, 1)) none) (cond (Nat.beq pc 5) (some (.iconst 3, 1)) none))) (cond (Nat.ble pc 9) (cond (Nat.ble pc 6) (cond (Nat.beq pc 6) (some (.if_icmp .gt 27, 3)) none) (cond (Nat.beq pc 9) (some (.iload_n 1, 1)) none)) (cond (Nat.ble pc 10) (cond (Nat.beq pc 10) (some (.iconst 1, 1)) none) (cond (Nat.ble pc 11) (cond (Nat.beq pc 11) (some (.if_icmp .eq 8, 3)) none) (cond (Nat.beq pc 14) (some (.iload_n 1, 1)) none))))) (cond (Nat.ble pc 21) (cond (Nat.ble pc 16) (cond (Nat.ble pc 15) (cond (Nat.beq pc 15) (some (.iconst 2, 1)) none) (cond (Nat.beq pc 16) (some (.if_icmp .ne 19, 3)) none)) (cond (Nat.ble pc 19) (cond (Nat.beq pc 19) (some (.lload_n 2, 1)) none) (cond (Nat.ble pc 20) (cond (Nat.beq pc 20) (some (.lconst 0, 1)) none) (cond (Nat.beq pc 21) (some (.lcmp, 1)) none)))) (cond (Nat.ble pc 25) (cond (Nat.ble pc 22) (cond (Nat.beq pc 22) (some (.ifCond .lt 11, 3)) none) (cond (Nat.beq pc 25) (some (.lload_n 2, 1)) none)) (cond (Nat.ble pc 26) (cond (Nat.beq pc 26) (some (.ldc2_w 97, 3)) none) (cond (Nat.ble pc 29) (cond (Nat.beq pc 29) (some (.lcmp, 1)) none) (cond (Nat.beq pc 30) (some (.ifCond .le 5, 3)) none)))))) (cond (Nat.ble pc 49) (cond (Nat.ble pc 39) (cond (Nat.ble pc 34) (cond (Nat.ble pc 33) (cond (Nat.beq pc 33) (some (.iconst (-1), 1)) none) (cond (Nat.beq pc 34) (some (.ireturn, 1)) none)) (cond (Nat.ble pc 35) (cond (Nat.beq pc 35) (some (.aload_n 0, 1)) none) (cond (Nat.ble pc 36) (cond (Nat.beq pc 36) (some (.getfield 99, 3)) none) (cond (Nat.beq pc 39) (some (.sipush 200, 3)) none)))) (cond (Nat.ble pc 45) (cond (Nat.ble pc 42) (cond (Nat.beq pc 42) (some (.if_icmp .ne 6, 3)) none) (cond (Nat.beq pc 45) (some (.bipush (-2), 2)) none)) (cond (Nat.ble pc 47) (cond (Nat.beq pc 47) (some (.ireturn, 1)) none) (cond (Nat.ble pc 48) (cond (Nat.beq pc 48) (some (.aload_n 0, 1)) none) (cond (Nat.beq pc 49) (some (.bipush 100, 2)) none))))) (cond (Nat.ble pc 55) (cond (Nat.ble pc 52) (cond (Nat.ble pc 51) (cond (Nat.beq pc 51) (some (.iload_n 1, 1)) none) (cond (Nat.beq pc 52) (some (.iadd, 1)) none)) (cond (Nat.ble pc 53) (cond (Nat.beq pc 53) (some (.iconst (-1), 1)) none) (cond (Nat.ble pc 54) (cond (Nat.beq pc 54) (some (.iconst (-1), 1)) none) (cond (Nat.beq pc 55) (some (.iconst (-1), 1)) none)))) (cond (Nat.ble pc 57) (cond (Nat.ble pc 56) (cond (Nat.beq pc 56) (some (.lload_n 2, 1)) none) (cond (Nat.beq pc 57) (some (.iconst 1, 1)) none)) (cond (Nat.ble pc 58) (cond (Nat.beq pc 58) (some (.iconst 1, 1)) none) (cond (Nat.ble pc 59) (cond (Nat.beq pc 59) (some (.invokevirtual 102, 3)) none) (cond (Nat.beq pc 62) (some (.ireturn, 1)) none)))))))
set_option maxRecDepth 100000 in
theorem zd70_0 : (List.range' 0 63).all (fun pc => match zI70 pc with | some q => decide (decode (zCode 70) pc = .ok q) | none => true) = true := by decide +kernel
theorem zJ70 {pc : Nat} {q : Jvm.ClassFile.Instr × Nat} (h : zI70 pc = some q) : decode (zCode 70) pc = .ok q := by
  have hb := (z_gd (n := 63) (pc := pc) h).1
  exact z_ck zd70_0 (by omega) (by omega) h
def zI71 (pc : Nat) : Option (Jvm.ClassFile.Instr × Nat) := cond (Nat.ble 176 pc) none (cond (Nat.ble pc 86) (cond (Nat.ble pc 40) (cond (Nat.ble pc 19) (cond (Nat.ble pc 9) (cond (Nat.ble pc 4) (cond (Nat.ble pc 0) (cond (Nat.beq pc 0) (some (.aload_n 0, 1)) none) (cond (Nat.ble pc 1) (cond (Nat.beq pc 1) (some (.getfield 9, 3)) none) (cond (Nat.beq pc 4) (some (.aload_n 0, 1)) none))) (cond (Nat.ble pc 5) (cond (Nat.beq pc 5) (some (.getfield 99, 3)) none) (cond (Nat.ble pc 8) (cond (Nat.beq pc 8) (some (.iload_n 1, 1)) none) (cond (Nat.beq pc 9) (some (.iastore, 1)) none)))) (cond (Nat.ble pc 14) (cond (Nat.ble pc 10) (cond (Nat.beq pc 10) (some (.aload_n 0, 1)) none) (cond (Nat.ble pc 11) (cond (Nat.beq pc 11) (some (.getfield 13, 3)) none) (cond (Nat.beq pc 14) (some (.aload_n 0, 1)) none))) (cond (Nat.ble pc 15) (cond (Nat.beq pc 15) (some (.getfield 99, 3)) none) (cond (Nat.ble pc 18) (cond (Nat.beq pc 18) (some (.iload_n 2, 1)) none) (cond (Nat.beq pc 19) (some (.iastore, 1)) none))))) (cond (Nat.ble pc 29) (cond (Nat.ble pc 24) (cond (Nat.ble pc 20) (cond (Nat.beq pc 20) (some (.aload_n 0, 1)) none) (cond (Nat.ble pc 21) (cond (Nat.beq pc 21) (some (.getfield 16, 3)) none) (cond (Nat.beq pc 24) (some (.aload_n 0, 1)) none))) (cond (Nat.ble pc 25) (cond (Nat.beq pc 25) (some (.getfield 99, 3)) none) (cond (Nat.ble pc 28) (cond (Nat.beq pc 28) (some (.iload_n 3, 1)) none) (cond (Nat.beq pc 29) (some (.iastore, 1)) none)))) (cond (Nat.ble pc 34) (cond (Nat.ble pc 30) (cond (Nat.beq pc 30) (some (.aload_n 0, 1)) none) (cond (Nat.ble pc 31) (cond (Nat.beq pc 31) (some (.getfield 19, 3)) none) (cond (Nat.beq pc 34) (some (.aload_n 0, 1)) none))) (cond (Nat.ble pc 35) (cond (Nat.beq pc 35) (some (.getfield 99, 3)) none) (cond (Nat.ble pc 38) (cond (Nat.beq pc 38) (some (.iload 4, 2)) none) (cond (Nat.beq pc 40) (some (.iastore, 1)) none)))))) (cond (Nat.ble pc 62) (cond (Nat.ble pc 51) (cond (Nat.ble pc 45) (cond (Nat.ble pc 41) (cond (Nat.beq pc 41) (some (.aload_n 0, 1)) none) (cond (Nat.ble pc 42) (cond (Nat.beq pc 42) (some (.getfield 22, 3)) none) (cond (Nat.beq pc 45) (some (.aload_n 0, 1)) none))) (cond (Nat.ble pc 46) (cond (Nat.beq pc 46) (some (.getfield 99, 3)) none) (cond (Nat.ble pc 49) (cond (Nat.beq pc 49) (some (.lload 5, 2)) none) (cond (Nat.beq pc 51) (some (.lastore, 1)) none)))) (cond (Nat.ble pc 56) (cond (Nat.ble pc 52) (cond (Nat.beq pc 52) (some (.aload_n 0, 1)) none) (cond (Nat.ble pc 53) (cond (Nat.beq pc 53) (some (.getfield 26, 3)) none) (cond (Nat.beq pc 56) (some (.aload_n 0, 1)) none))) (cond (Nat.ble pc 57) (cond (Nat.beq pc 57) (some (.getfield 99, 3)) none) (cond (Nat.ble pc 60) (cond (Nat.beq pc 60) (some (.iload 7, 2)) none) (cond (Nat.beq pc 62) (some (.iastore, 1)) none))))) (cond (Nat.ble pc 73) (cond (Nat.ble pc 67) (cond (Nat.ble pc 63) (cond (Nat.beq pc 63) (some (.aload_n 0, 1)) none) (cond (Nat.ble pc 64) (cond (Nat.beq pc 64) (some (.getfield 29, 3)) none) (cond (Nat.beq pc 67) (some (.aload_n 0, 1)) none))) (cond (Nat.ble pc 68) (cond (Nat.beq pc 68) (some (.getfield 99, 3)) none) (cond (Nat.ble pc 71) (cond (Nat.beq pc 71) (some (.iload 8, 2)) none) (cond (Nat.beq pc 73) (some (.iastore, 1)) none)))) (cond (Nat.ble pc 77) (cond (Nat.ble pc 74) (cond (Nat.beq pc 74) (some (.iload_n 1, 1)) none) (cond (Nat.ble pc 75) (cond (Nat.beq pc 75) (some (.bipush 11, 2)) none) (cond (Nat.beq pc 77) (some (.if_icmp .eq 64, 3)) none))) (cond (Nat.ble pc 81) (cond (Nat.ble pc 80) (cond (Nat.beq pc 80) (some (.iload_n 1, 1)) none) (cond (Nat.beq pc 81) (some (.bipush 12, 2)) none)) (cond (Nat.ble pc 83) (cond (Nat.beq pc 83) (some (.if_icmp .eq 58, 3)) none) (cond (Nat.beq pc 86) (some (.iload_n 1, 1)) none))))))) (cond (Nat.ble pc 131) (cond (Nat.ble pc 107) (cond (Nat.ble pc 97) (cond (Nat.ble pc 92) (cond (Nat.ble pc 87) (cond (Nat.beq pc 87) (some (.bipush 10, 2)) none) (cond (Nat.ble pc 89) (cond (Nat.beq pc 89) (some (.if_icmp .ne 21, 3)) none) (cond (Nat.beq pc 92) (some (.aload_n 0, 1)) none))) (cond (Nat.ble pc 93) (cond (Nat.beq pc 93) (some (.getfield 32, 3)) none) (cond (Nat.ble pc 96) (cond (Nat.beq pc 96) (some (.iload_n 2, 1)) none) (cond (Nat.beq pc 97) (some (.baload, 1)) none)))) (cond (Nat.ble pc 102) (cond (Nat.ble pc 98) (cond (Nat.beq pc 98) (some (.ifCond .eq 12, 3)) none) (cond (Nat.ble pc 101) (cond (Nat.beq pc 101) (some (.aload_n 0, 1)) none) (cond (Nat.beq pc 102) (some (.getfield 32, 3)) none))) (cond (Nat.ble pc 105) (cond (Nat.beq pc 105) (some (.iload_n 3, 1)) none) (cond (Nat.ble pc 106) (cond (Nat.beq pc 106) (some (.baload, 1)) none) (cond (Nat.beq pc 107) (some (.ifCond .ne 34, 3)) none))))) (cond (Nat.ble pc 120) (cond (Nat.ble pc 113) (cond (Nat.ble pc 110) (cond (Nat.beq pc 110) (some (.iload_n 1, 1)) none) (cond (Nat.ble pc 111) (cond (Nat.beq pc 111) (some (.bipush 16, 2)) none) (cond (Nat.beq pc 113) (some (.if_icmp .ne 32, 3)) none))) (cond (Nat.ble pc 116) (cond (Nat.beq pc 116) (some (.aload_n 0, 1)) none) (cond (Nat.ble pc 117) (cond (Nat.beq pc 117) (some (.getfield 32, 3)) none) (cond (Nat.beq pc 120) (some (.iload_n 3, 1)) none)))) (cond (Nat.ble pc 125) (cond (Nat.ble pc 121) (cond (Nat.beq pc 121) (some (.baload, 1)) none) (cond (Nat.ble pc 122) (cond (Nat.beq pc 122) (some (.ifCond .eq 23, 3)) none) (cond (Nat.beq pc 125) (some (.iload 4, 2)) none))) (cond (Nat.ble pc 127) (cond (Nat.beq pc 127) (some (.iconst (-1), 1)) none) (cond (Nat.ble pc 128) (cond (Nat.beq pc 128) (some (.if_icmp .eq 13, 3)) none) (cond (Nat.beq pc 131) (some (.aload_n 0, 1)) none)))))) (cond (Nat.ble pc 153) (cond (Nat.ble pc 142) (cond (Nat.ble pc 137) (cond (Nat.ble pc 132) (cond (Nat.beq pc 132) (some (.getfield 32, 3)) none) (cond (Nat.ble pc 135) (cond (Nat.beq pc 135) (some (.iload 4, 2)) none) (cond (Nat.beq pc 137) (some (.baload, 1)) none))) (cond (Nat.ble pc 138) (cond (Nat.beq pc 138) (some (.ifCond .eq 7, 3)) none) (cond (Nat.ble pc 141) (cond (Nat.beq pc 141) (some (.iconst 1, 1)) none) (cond (Nat.beq pc 142) (some (.goto 4, 3)) none)))) (cond (Nat.ble pc 148) (cond (Nat.ble pc 145) (cond (Nat.beq pc 145) (some (.iconst 0, 1)) none) (cond (Nat.ble pc 146) (cond (Nat.beq pc 146) (some (.istore 9, 2)) none) (cond (Nat.beq pc 148) (some (.aload_n 0, 1)) none))) (cond (Nat.ble pc 149) (cond (Nat.beq pc 149) (some (.getfield 32, 3)) none) (cond (Nat.ble pc 152) (cond (Nat.beq pc 152) (some (.aload_n 0, 1)) none) (cond (Nat.beq pc 153) (some (.getfield 99, 3)) none))))) (cond (Nat.ble pc 164) (cond (Nat.ble pc 159) (cond (Nat.ble pc 156) (cond (Nat.beq pc 156) (some (.iload 9, 2)) none) (cond (Nat.ble pc 158) (cond (Nat.beq pc 158) (some (.bastore, 1)) none) (cond (Nat.beq pc 159) (some (.aload_n 0, 1)) none))) (cond (Nat.ble pc 160) (cond (Nat.beq pc 160) (some (.dup, 1)) none) (cond (Nat.ble pc 161) (cond (Nat.beq pc 161) (some (.getfield 99, 3)) none) (cond (Nat.beq pc 164) (some (.iconst 1, 1)) none)))) (cond (Nat.ble pc 169) (cond (Nat.ble pc 165) (cond (Nat.beq pc 165) (some (.iadd, 1)) none) (cond (Nat.ble pc 166) (cond (Nat.beq pc 166) (some (.putfield 99, 3)) none) (cond (Nat.beq pc 169) (some (.aload_n 0, 1)) none))) (cond (Nat.ble pc 173) (cond (Nat.ble pc 170) (cond (Nat.beq pc 170) (some (.getfield 99, 3)) none) (cond (Nat.beq pc 173) (some (.iconst 1, 1)) none)) (cond (Nat.ble pc 174) (cond (Nat.beq pc 174) (some (.isub, 1)) none) (cond (Nat.beq pc 175) (some (.ireturn, 1)) none))))))))
set_option maxRecDepth 100000 in
theorem zd71_0 : (List.range' 0 71).all (fun pc => match zI71 pc with | some q => decide (decode (zCode 71) pc = .ok q) | none => true) = true := by decide +kernel
set_option maxRecDepth 100000 in
theorem zd71_1 : (List.range' 71 75).all (fun pc => match zI71 pc with | some q => decide (decode (zCode 71) pc = .ok q) | none => true) = true := by decide +kernel
set_option maxRecDepth 100000 in
theorem zd71_2 : (List.range' 146 30).all (fun pc => match zI71 pc with | some q => decide (decode (zCode 71) pc = .ok q) | none => true) = true := by decide +kernel
theorem zJ71 {pc : Nat} {q : Jvm.ClassFile.Instr × Nat} (h : zI71 pc = some q) : decode (zCode 71) pc = .ok q := by
  have hb := (z_gd (n := 176) (pc := pc) h).1
  by_cases c0 : pc < 71
  · exact z_ck zd71_0 (by omega) (by omega) h
  by_cases c1 : pc < 146
  · exact z_ck zd71_1 (by omega) (by omega) h
  exact z_ck zd71_2 (by omega) (by omega) h
def zI72 (pc : Nat) : Option (Jvm.ClassFile.Instr × Nat) := cond (Nat.ble 267 pc) none (cond (Nat.ble pc 132) (cond (Nat.ble pc 63) (cond (Nat.ble pc 27) (cond (Nat.ble pc 12) (cond (Nat.ble pc 3) (cond (Nat.ble pc 1) (cond (Nat.ble pc 0) (cond (Nat.beq pc 0) (some (.aload_n 0, 1)) none) (cond (Nat.beq pc 1) (some (.iload_n 1, 1)) none)) (cond (Nat.ble pc 2) (cond (Nat.beq pc 2) (some (.iload_n 2, 1)) none) (cond (Nat.beq pc 3) (some (.iload_n 3, 1)) none))) (cond (Nat.ble pc 6) (cond (Nat.ble pc 4) (cond (Nat.beq pc 4) (some (.iload 4, 2)) none) (cond (Nat.beq pc 6) (some (.invokevirtual 119, 3)) none)) (cond (Nat.ble pc 9) (cond (Nat.beq pc 9) (some (.ifCond .ne 5, 3)) none) (cond (Nat.beq pc 12) (some (.iconst (-1), 1)) none)))) (cond (Nat.ble pc 17) (cond (Nat.ble pc 14) (cond (Nat.ble pc 13) (cond (Nat.beq pc 13) (some (.ireturn, 1)) none) (cond (Nat.beq pc 14) (some (.iload_n 1, 1)) none)) (cond (Nat.ble pc 15) (cond (Nat.beq pc 15) (some (.bipush 11, 2)) none) (cond (Nat.beq pc 17) (some (.if_icmp .eq 21, 3)) none))) (cond (Nat.ble pc 21) (cond (Nat.ble pc 20) (cond (Nat.beq pc 20) (some (.iload_n 1, 1)) none) (cond (Nat.beq pc 21) (some (.bipush 12, 2)) none)) (cond (Nat.ble pc 23) (cond (Nat.beq pc 23) (some (.if_icmp .eq 15, 3)) none) (cond (Nat.ble pc 26) (cond (Nat.beq pc 26) (some (.iload_n 1, 1)) none) (cond (Nat.beq pc 27) (some (.bipush 19, 2)) none)))))) (cond (Nat.ble pc 45) (cond (Nat.ble pc 35) (cond (Nat.ble pc 32) (cond (Nat.ble pc 29) (cond (Nat.beq pc 29) (some (.if_icmp .eq 9, 3)) none) (cond (Nat.beq pc 32) (some (.iload_n 1, 1)) none)) (cond (Nat.ble pc 33) (cond (Nat.beq pc 33) (some (.bipush 20, 2)) none) (cond (Nat.beq pc 35) (some (.if_icmp .ne 7, 3)) none))) (cond (Nat.ble pc 39) (cond (Nat.ble pc 38) (cond (Nat.beq pc 38) (some (.iconst 1, 1)) none) (cond (Nat.beq pc 39) (some (.goto 4, 3)) none)) (cond (Nat.ble pc 42) (cond (Nat.beq pc 42) (some (.iconst 0, 1)) none) (cond (Nat.ble pc 43) (cond (Nat.beq pc 43) (some (.istore 5, 2)) none) (cond (Nat.beq pc 45) (some (.iload_n 1, 1)) none))))) (cond (Nat.ble pc 52) (cond (Nat.ble pc 48) (cond (Nat.ble pc 46) (cond (Nat.beq pc 46) (some (.bipush 13, 2)) none) (cond (Nat.beq pc 48) (some (.if_icmp .eq 19, 3)) none)) (cond (Nat.ble pc 51) (cond (Nat.beq pc 51) (some (.iload_n 1, 1)) none) (cond (Nat.beq pc 52) (some (.bipush 14, 2)) none))) (cond (Nat.ble pc 57) (cond (Nat.ble pc 54) (cond (Nat.beq pc 54) (some (.if_icmp .eq 13, 3)) none) (cond (Nat.beq pc 57) (some (.iload_n 1, 1)) none)) (cond (Nat.ble pc 58) (cond (Nat.beq pc 58) (some (.bipush 20, 2)) none) (cond (Nat.ble pc 60) (cond (Nat.beq pc 60) (some (.if_icmp .eq 7, 3)) none) (cond (Nat.beq pc 63) (some (.iconst 1, 1)) none))))))) (cond (Nat.ble pc 95) (cond (Nat.ble pc 77) (cond (Nat.ble pc 70) (cond (Nat.ble pc 67) (cond (Nat.ble pc 64) (cond (Nat.beq pc 64) (some (.goto 4, 3)) none) (cond (Nat.beq pc 67) (some (.iconst 0, 1)) none)) (cond (Nat.ble pc 68) (cond (Nat.beq pc 68) (some (.istore 6, 2)) none) (cond (Nat.beq pc 70) (some (.iload_n 1, 1)) none))) (cond (Nat.ble pc 73) (cond (Nat.ble pc 71) (cond (Nat.beq pc 71) (some (.bipush 16, 2)) none) (cond (Nat.beq pc 73) (some (.if_icmp .eq 15, 3)) none)) (cond (Nat.ble pc 76) (cond (Nat.beq pc 76) (some (.iload_n 1, 1)) none) (cond (Nat.beq pc 77) (some (.bipush 18, 2)) none)))) (cond (Nat.ble pc 85) (cond (Nat.ble pc 82) (cond (Nat.ble pc 79) (cond (Nat.beq pc 79) (some (.if_icmp .eq 9, 3)) none) (cond (Nat.beq pc 82) (some (.iload_n 1, 1)) none)) (cond (Nat.ble pc 83) (cond (Nat.beq pc 83) (some (.bipush 19, 2)) none) (cond (Nat.beq pc 85) (some (.if_icmp .ne 7, 3)) none))) (cond (Nat.ble pc 89) (cond (Nat.ble pc 88) (cond (Nat.beq pc 88) (some (.iconst 1, 1)) none) (cond (Nat.beq pc 89) (some (.goto 4, 3)) none)) (cond (Nat.ble pc 92) (cond (Nat.beq pc 92) (some (.iconst 0, 1)) none) (cond (Nat.ble pc 93) (cond (Nat.beq pc 93) (some (.istore 7, 2)) none) (cond (Nat.beq pc 95) (some (.iload 5, 2)) none)))))) (cond (Nat.ble pc 113) (cond (Nat.ble pc 104) (cond (Nat.ble pc 100) (cond (Nat.ble pc 97) (cond (Nat.beq pc 97) (some (.ifCond .eq 7, 3)) none) (cond (Nat.beq pc 100) (some (.iconst 0, 1)) none)) (cond (Nat.ble pc 101) (cond (Nat.beq pc 101) (some (.goto 8, 3)) none) (cond (Nat.beq pc 104) (some (.aload_n 0, 1)) none))) (cond (Nat.ble pc 106) (cond (Nat.ble pc 105) (cond (Nat.beq pc 105) (some (.iload_n 2, 1)) none) (cond (Nat.beq pc 106) (some (.invokevirtual 123, 3)) none)) (cond (Nat.ble pc 109) (cond (Nat.beq pc 109) (some (.istore 8, 2)) none) (cond (Nat.ble pc 111) (cond (Nat.beq pc 111) (some (.iload 6, 2)) none) (cond (Nat.beq pc 113) (some (.ifCond .eq 11, 3)) none))))) (cond (Nat.ble pc 121) (cond (Nat.ble pc 117) (cond (Nat.ble pc 116) (cond (Nat.beq pc 116) (some (.aload_n 0, 1)) none) (cond (Nat.beq pc 117) (some (.iload_n 3, 1)) none)) (cond (Nat.ble pc 118) (cond (Nat.beq pc 118) (some (.invokevirtual 123, 3)) none) (cond (Nat.beq pc 121) (some (.goto 4, 3)) none))) (cond (Nat.ble pc 125) (cond (Nat.ble pc 124) (cond (Nat.beq pc 124) (some (.iconst 0, 1)) none) (cond (Nat.beq pc 125) (some (.istore 9, 2)) none)) (cond (Nat.ble pc 127) (cond (Nat.beq pc 127) (some (.iload 7, 2)) none) (cond (Nat.ble pc 129) (cond (Nat.beq pc 129) (some (.ifCond .eq 12, 3)) none) (cond (Nat.beq pc 132) (some (.aload_n 0, 1)) none)))))))) (cond (Nat.ble pc 197) (cond (Nat.ble pc 168) (cond (Nat.ble pc 148) (cond (Nat.ble pc 141) (cond (Nat.ble pc 135) (cond (Nat.ble pc 133) (cond (Nat.beq pc 133) (some (.iload 4, 2)) none) (cond (Nat.beq pc 135) (some (.invokevirtual 123, 3)) none)) (cond (Nat.ble pc 138) (cond (Nat.beq pc 138) (some (.goto 4, 3)) none) (cond (Nat.beq pc 141) (some (.iconst 0, 1)) none))) (cond (Nat.ble pc 144) (cond (Nat.ble pc 142) (cond (Nat.beq pc 142) (some (.istore 10, 2)) none) (cond (Nat.beq pc 144) (some (.iload 8, 2)) none)) (cond (Nat.ble pc 146) (cond (Nat.beq pc 146) (some (.iload 9, 2)) none) (cond (Nat.beq pc 148) (some (.if_icmp .le 8, 3)) none)))) (cond (Nat.ble pc 158) (cond (Nat.ble pc 153) (cond (Nat.ble pc 151) (cond (Nat.beq pc 151) (some (.iload 8, 2)) none) (cond (Nat.beq pc 153) (some (.goto 5, 3)) none)) (cond (Nat.ble pc 156) (cond (Nat.beq pc 156) (some (.iload 9, 2)) none) (cond (Nat.beq pc 158) (some (.istore 11, 2)) none))) (cond (Nat.ble pc 161) (cond (Nat.ble pc 160) (cond (Nat.beq pc 160) (some (.iconst 1, 1)) none) (cond (Nat.beq pc 161) (some (.iload 11, 2)) none)) (cond (Nat.ble pc 163) (cond (Nat.beq pc 163) (some (.iload 10, 2)) none) (cond (Nat.ble pc 165) (cond (Nat.beq pc 165) (some (.if_icmp .le 8, 3)) none) (cond (Nat.beq pc 168) (some (.iload 11, 2)) none)))))) (cond (Nat.ble pc 184) (cond (Nat.ble pc 176) (cond (Nat.ble pc 173) (cond (Nat.ble pc 170) (cond (Nat.beq pc 170) (some (.goto 5, 3)) none) (cond (Nat.beq pc 173) (some (.iload 10, 2)) none)) (cond (Nat.ble pc 175) (cond (Nat.beq pc 175) (some (.iadd, 1)) none) (cond (Nat.beq pc 176) (some (.istore 11, 2)) none))) (cond (Nat.ble pc 179) (cond (Nat.ble pc 178) (cond (Nat.beq pc 178) (some (.iload_n 1, 1)) none) (cond (Nat.beq pc 179) (some (.iconst 5, 1)) none)) (cond (Nat.ble pc 180) (cond (Nat.beq pc 180) (some (.if_icmp .gt 21, 3)) none) (cond (Nat.ble pc 183) (cond (Nat.beq pc 183) (some (.iconst 1, 1)) none) (cond (Nat.beq pc 184) (some (.aload_n 0, 1)) none))))) (cond (Nat.ble pc 190) (cond (Nat.ble pc 188) (cond (Nat.ble pc 185) (cond (Nat.beq pc 185) (some (.getfield 29, 3)) none) (cond (Nat.beq pc 188) (some (.iload_n 2, 1)) none)) (cond (Nat.ble pc 189) (cond (Nat.beq pc 189) (some (.iaload, 1)) none) (cond (Nat.beq pc 190) (some (.iadd, 1)) none))) (cond (Nat.ble pc 192) (cond (Nat.ble pc 191) (cond (Nat.beq pc 191) (some (.aload_n 0, 1)) none) (cond (Nat.beq pc 192) (some (.getfield 29, 3)) none)) (cond (Nat.ble pc 195) (cond (Nat.beq pc 195) (some (.iload_n 3, 1)) none) (cond (Nat.ble pc 196) (cond (Nat.beq pc 196) (some (.iaload, 1)) none) (cond (Nat.beq pc 197) (some (.iadd, 1)) none))))))) (cond (Nat.ble pc 233) (cond (Nat.ble pc 213) (cond (Nat.ble pc 204) (cond (Nat.ble pc 201) (cond (Nat.ble pc 198) (cond (Nat.beq pc 198) (some (.goto 4, 3)) none) (cond (Nat.beq pc 201) (some (.iconst 0, 1)) none)) (cond (Nat.ble pc 202) (cond (Nat.beq pc 202) (some (.istore 12, 2)) none) (cond (Nat.beq pc 204) (some (.iload 11, 2)) none))) (cond (Nat.ble pc 208) (cond (Nat.ble pc 206) (cond (Nat.beq pc 206) (some (.bipush 30, 2)) none) (cond (Nat.beq pc 208) (some (.if_icmp .gt 11, 3)) none)) (cond (Nat.ble pc 211) (cond (Nat.beq pc 211) (some (.iload 12, 2)) none) (cond (Nat.beq pc 213) (some (.sipush 200, 3)) none)))) (cond (Nat.ble pc 221) (cond (Nat.ble pc 219) (cond (Nat.ble pc 216) (cond (Nat.beq pc 216) (some (.if_icmp .le 5, 3)) none) (cond (Nat.beq pc 219) (some (.iconst (-1), 1)) none)) (cond (Nat.ble pc 220) (cond (Nat.beq pc 220) (some (.ireturn, 1)) none) (cond (Nat.beq pc 221) (some (.aload_n 0, 1)) none))) (cond (Nat.ble pc 225) (cond (Nat.ble pc 222) (cond (Nat.beq pc 222) (some (.getfield 99, 3)) none) (cond (Nat.beq pc 225) (some (.sipush 200, 3)) none)) (cond (Nat.ble pc 228) (cond (Nat.beq pc 228) (some (.if_icmp .ne 6, 3)) none) (cond (Nat.ble pc 231) (cond (Nat.beq pc 231) (some (.bipush (-2), 2)) none) (cond (Nat.beq pc 233) (some (.ireturn, 1)) none)))))) (cond (Nat.ble pc 247) (cond (Nat.ble pc 237) (cond (Nat.ble pc 235) (cond (Nat.ble pc 234) (cond (Nat.beq pc 234) (some (.aload_n 0, 1)) none) (cond (Nat.beq pc 235) (some (.iload_n 1, 1)) none)) (cond (Nat.ble pc 236) (cond (Nat.beq pc 236) (some (.iload_n 2, 1)) none) (cond (Nat.beq pc 237) (some (.iload 6, 2)) none))) (cond (Nat.ble pc 242) (cond (Nat.ble pc 239) (cond (Nat.beq pc 239) (some (.ifCond .eq 7, 3)) none) (cond (Nat.beq pc 242) (some (.iload_n 3, 1)) none)) (cond (Nat.ble pc 243) (cond (Nat.beq pc 243) (some (.goto 4, 3)) none) (cond (Nat.ble pc 246) (cond (Nat.beq pc 246) (some (.iconst (-1), 1)) none) (cond (Nat.beq pc 247) (some (.iload 7, 2)) none))))) (cond (Nat.ble pc 257) (cond (Nat.ble pc 252) (cond (Nat.ble pc 249) (cond (Nat.beq pc 249) (some (.ifCond .eq 8, 3)) none) (cond (Nat.beq pc 252) (some (.iload 4, 2)) none)) (cond (Nat.ble pc 254) (cond (Nat.beq pc 254) (some (.goto 4, 3)) none) (cond (Nat.beq pc 257) (some (.iconst (-1), 1)) none))) (cond (Nat.ble pc 259) (cond (Nat.ble pc 258) (cond (Nat.beq pc 258) (some (.lconst 0, 1)) none) (cond (Nat.beq pc 259) (some (.iload 11, 2)) none)) (cond (Nat.ble pc 261) (cond (Nat.beq pc 261) (some (.iload 12, 2)) none) (cond (Nat.ble pc 263) (cond (Nat.beq pc 263) (some (.invokevirtual 102, 3)) none) (cond (Nat.beq pc 266) (some (.ireturn, 1)) none)))))))))
set_option maxRecDepth 100000 in
theorem zd72_0 : (List.range' 0 73).all (fun pc => match zI72 pc with | some q => decide (decode (zCode 72) pc = .ok q) | none => true) = true := by decide +kernel
set_option maxRecDepth 100000 in
theorem zd72_1 : (List.range' 73 83).all (fun pc => match zI72 pc with | some q => decide (decode (zCode 72) pc = .ok q) | none => true) = true := by decide +kernel
set_option maxRecDepth 100000 in
theorem zd72_2 : (List.range' 156 75).all (fun pc => match zI72 pc with | some q => decide (decode (zCode 72) pc = .ok q) | none => true) = true := by decide +kernel
set_option maxRecDepth 100000 in
theorem zd72_3 : (List.range' 231 36).all (fun pc => match zI72 pc with | some q => decide (decode (zCode 72) pc = .ok q) | none => true) = true := by decide +kernel
theorem zJ72 {pc : Nat} {q : Jvm.ClassFile.Instr × Nat} (h : zI72 pc = some q) : decode (zCode 72) pc = .ok q := by
  have hb := (z_gd (n := 267) (pc := pc) h).1
  by_cases c0 : pc < 73
  · exact z_ck zd72_0 (by omega) (by omega) h
  by_cases c1 : pc < 156
  · exact z_ck zd72_1 (by omega) (by omega) h
  by_cases c2 : pc < 231
  · exact z_ck zd72_2 (by omega) (by omega) h
  exact z_ck zd72_3 (by omega) (by omega) h
def zI73 (pc : Nat) : Option (Jvm.ClassFile.Instr × Nat) := cond (Nat.ble 300 pc) none (cond (Nat.ble pc 177) (cond (Nat.ble pc 115) (cond (Nat.ble pc 87) (cond (Nat.ble pc 73) (cond (Nat.ble pc 65) (cond (Nat.ble pc 1) (cond (Nat.ble pc 0) (cond (Nat.beq pc 0) (some (.iload_n 1, 1)) none) (cond (Nat.beq pc 1) (some (.tableswitch 268 10 21 #[63, 85, 85, 106, 106, 63, 112, 149, 171, 202, 232, 237], 63)) none)) (cond (Nat.ble pc 64) (cond (Nat.beq pc 64) (some (.aload_n 0, 1)) none) (cond (Nat.beq pc 65) (some (.iload_n 2, 1)) none))) (cond (Nat.ble pc 69) (cond (Nat.ble pc 66) (cond (Nat.beq pc 66) (some (.invokevirtual 110, 3)) none) (cond (Nat.beq pc 69) (some (.ifCond .eq 15, 3)) none)) (cond (Nat.ble pc 72) (cond (Nat.beq pc 72) (some (.aload_n 0, 1)) none) (cond (Nat.beq pc 73) (some (.iload_n 3, 1)) none)))) (cond (Nat.ble pc 81) (cond (Nat.ble pc 77) (cond (Nat.ble pc 74) (cond (Nat.beq pc 74) (some (.invokevirtual 110, 3)) none) (cond (Nat.beq pc 77) (some (.ifCond .eq 7, 3)) none)) (cond (Nat.ble pc 80) (cond (Nat.beq pc 80) (some (.iconst 1, 1)) none) (cond (Nat.beq pc 81) (some (.goto 4, 3)) none))) (cond (Nat.ble pc 85) (cond (Nat.ble pc 84) (cond (Nat.beq pc 84) (some (.iconst 0, 1)) none) (cond (Nat.beq pc 85) (some (.ireturn, 1)) none)) (cond (Nat.ble pc 86) (cond (Nat.beq pc 86) (some (.iload_n 2, 1)) none) (cond (Nat.beq pc 87) (some (.invokestatic 113, 3)) none))))) (cond (Nat.ble pc 105) (cond (Nat.ble pc 95) (cond (Nat.ble pc 93) (cond (Nat.ble pc 90) (cond (Nat.beq pc 90) (some (.ifCond .eq 15, 3)) none) (cond (Nat.beq pc 93) (some (.aload_n 0, 1)) none)) (cond (Nat.ble pc 94) (cond (Nat.beq pc 94) (some (.iload_n 3, 1)) none) (cond (Nat.beq pc 95) (some (.invokevirtual 116, 3)) none))) (cond (Nat.ble pc 101) (cond (Nat.ble pc 98) (cond (Nat.beq pc 98) (some (.ifCond .eq 7, 3)) none) (cond (Nat.beq pc 101) (some (.iconst 1, 1)) none)) (cond (Nat.ble pc 102) (cond (Nat.beq pc 102) (some (.goto 4, 3)) none) (cond (Nat.beq pc 105) (some (.iconst 0, 1)) none)))) (cond (Nat.ble pc 109) (cond (Nat.ble pc 107) (cond (Nat.ble pc 106) (cond (Nat.beq pc 106) (some (.ireturn, 1)) none) (cond (Nat.beq pc 107) (some (.aload_n 0, 1)) none)) (cond (Nat.ble pc 108) (cond (Nat.beq pc 108) (some (.iload_n 2, 1)) none) (cond (Nat.beq pc 109) (some (.invokevirtual 116, 3)) none))) (cond (Nat.ble pc 113) (cond (Nat.ble pc 112) (cond (Nat.beq pc 112) (some (.ireturn, 1)) none) (cond (Nat.beq pc 113) (some (.aload_n 0, 1)) none)) (cond (Nat.ble pc 114) (cond (Nat.beq pc 114) (some (.iload_n 2, 1)) none) (cond (Nat.beq pc 115) (some (.invokevirtual 116, 3)) none)))))) (cond (Nat.ble pc 149) (cond (Nat.ble pc 132) (cond (Nat.ble pc 123) (cond (Nat.ble pc 121) (cond (Nat.ble pc 118) (cond (Nat.beq pc 118) (some (.ifCond .eq 30, 3)) none) (cond (Nat.beq pc 121) (some (.aload_n 0, 1)) none)) (cond (Nat.ble pc 122) (cond (Nat.beq pc 122) (some (.iload_n 3, 1)) none) (cond (Nat.beq pc 123) (some (.invokevirtual 110, 3)) none))) (cond (Nat.ble pc 129) (cond (Nat.ble pc 126) (cond (Nat.beq pc 126) (some (.ifCond .eq 22, 3)) none) (cond (Nat.beq pc 129) (some (.iload 4, 2)) none)) (cond (Nat.ble pc 131) (cond (Nat.beq pc 131) (some (.iconst (-1), 1)) none) (cond (Nat.beq pc 132) (some (.if_icmp .eq 12, 3)) none)))) (cond (Nat.ble pc 141) (cond (Nat.ble pc 136) (cond (Nat.ble pc 135) (cond (Nat.beq pc 135) (some (.aload_n 0, 1)) none) (cond (Nat.beq pc 136) (some (.iload 4, 2)) none)) (cond (Nat.ble pc 138) (cond (Nat.beq pc 138) (some (.invokevirtual 110, 3)) none) (cond (Nat.beq pc 141) (some (.ifCond .eq 7, 3)) none))) (cond (Nat.ble pc 145) (cond (Nat.ble pc 144) (cond (Nat.beq pc 144) (some (.iconst 1, 1)) none) (cond (Nat.beq pc 145) (some (.goto 4, 3)) none)) (cond (Nat.ble pc 148) (cond (Nat.beq pc 148) (some (.iconst 0, 1)) none) (cond (Nat.beq pc 149) (some (.ireturn, 1)) none))))) (cond (Nat.ble pc 163) (cond (Nat.ble pc 155) (cond (Nat.ble pc 151) (cond (Nat.ble pc 150) (cond (Nat.beq pc 150) (some (.aload_n 0, 1)) none) (cond (Nat.beq pc 151) (some (.iload_n 2, 1)) none)) (cond (Nat.ble pc 152) (cond (Nat.beq pc 152) (some (.invokevirtual 116, 3)) none) (cond (Nat.beq pc 155) (some (.ifCond .eq 15, 3)) none))) (cond (Nat.ble pc 159) (cond (Nat.ble pc 158) (cond (Nat.beq pc 158) (some (.aload_n 0, 1)) none) (cond (Nat.beq pc 159) (some (.iload_n 3, 1)) none)) (cond (Nat.ble pc 160) (cond (Nat.beq pc 160) (some (.invokevirtual 110, 3)) none) (cond (Nat.beq pc 163) (some (.ifCond .eq 7, 3)) none)))) (cond (Nat.ble pc 171) (cond (Nat.ble pc 167) (cond (Nat.ble pc 166) (cond (Nat.beq pc 166) (some (.iconst 1, 1)) none) (cond (Nat.beq pc 167) (some (.goto 4, 3)) none)) (cond (Nat.ble pc 170) (cond (Nat.beq pc 170) (some (.iconst 0, 1)) none) (cond (Nat.beq pc 171) (some (.ireturn, 1)) none))) (cond (Nat.ble pc 173) (cond (Nat.ble pc 172) (cond (Nat.beq pc 172) (some (.aload_n 0, 1)) none) (cond (Nat.beq pc 173) (some (.iload_n 2, 1)) none)) (cond (Nat.ble pc 174) (cond (Nat.beq pc 174) (some (.invokevirtual 116, 3)) none) (cond (Nat.beq pc 177) (some (.ifCond .eq 24, 3)) none))))))) (cond (Nat.ble pc 239) (cond (Nat.ble pc 210) (cond (Nat.ble pc 194) (cond (Nat.ble pc 185) (cond (Nat.ble pc 181) (cond (Nat.ble pc 180) (cond (Nat.beq pc 180) (some (.aload_n 0, 1)) none) (cond (Nat.beq pc 181) (some (.iload_n 3, 1)) none)) (cond (Nat.ble pc 182) (cond (Nat.beq pc 182) (some (.invokevirtual 110, 3)) none) (cond (Nat.beq pc 185) (some (.ifCond .eq 16, 3)) none))) (cond (Nat.ble pc 189) (cond (Nat.ble pc 188) (cond (Nat.beq pc 188) (some (.aload_n 0, 1)) none) (cond (Nat.beq pc 189) (some (.iload 4, 2)) none)) (cond (Nat.ble pc 191) (cond (Nat.beq pc 191) (some (.invokevirtual 110, 3)) none) (cond (Nat.beq pc 194) (some (.ifCond .eq 7, 3)) none)))) (cond (Nat.ble pc 202) (cond (Nat.ble pc 198) (cond (Nat.ble pc 197) (cond (Nat.beq pc 197) (some (.iconst 1, 1)) none) (cond (Nat.beq pc 198) (some (.goto 4, 3)) none)) (cond (Nat.ble pc 201) (cond (Nat.beq pc 201) (some (.iconst 0, 1)) none) (cond (Nat.beq pc 202) (some (.ireturn, 1)) none))) (cond (Nat.ble pc 204) (cond (Nat.ble pc 203) (cond (Nat.beq pc 203) (some (.iload_n 2, 1)) none) (cond (Nat.beq pc 204) (some (.invokestatic 113, 3)) none)) (cond (Nat.ble pc 207) (cond (Nat.beq pc 207) (some (.ifCond .eq 24, 3)) none) (cond (Nat.beq pc 210) (some (.aload_n 0, 1)) none))))) (cond (Nat.ble pc 227) (cond (Nat.ble pc 218) (cond (Nat.ble pc 212) (cond (Nat.ble pc 211) (cond (Nat.beq pc 211) (some (.iload_n 3, 1)) none) (cond (Nat.beq pc 212) (some (.invokevirtual 116, 3)) none)) (cond (Nat.ble pc 215) (cond (Nat.beq pc 215) (some (.ifCond .eq 16, 3)) none) (cond (Nat.beq pc 218) (some (.aload_n 0, 1)) none))) (cond (Nat.ble pc 221) (cond (Nat.ble pc 219) (cond (Nat.beq pc 219) (some (.iload 4, 2)) none) (cond (Nat.beq pc 221) (some (.invokevirtual 116, 3)) none)) (cond (Nat.ble pc 224) (cond (Nat.beq pc 224) (some (.ifCond .eq 7, 3)) none) (cond (Nat.beq pc 227) (some (.iconst 1, 1)) none)))) (cond (Nat.ble pc 233) (cond (Nat.ble pc 231) (cond (Nat.ble pc 228) (cond (Nat.beq pc 228) (some (.goto 4, 3)) none) (cond (Nat.beq pc 231) (some (.iconst 0, 1)) none)) (cond (Nat.ble pc 232) (cond (Nat.beq pc 232) (some (.ireturn, 1)) none) (cond (Nat.beq pc 233) (some (.iload_n 2, 1)) none))) (cond (Nat.ble pc 237) (cond (Nat.ble pc 234) (cond (Nat.beq pc 234) (some (.invokestatic 113, 3)) none) (cond (Nat.beq pc 237) (some (.ireturn, 1)) none)) (cond (Nat.ble pc 238) (cond (Nat.beq pc 238) (some (.aload_n 0, 1)) none) (cond (Nat.beq pc 239) (some (.iload_n 2, 1)) none)))))) (cond (Nat.ble pc 269) (cond (Nat.ble pc 255) (cond (Nat.ble pc 247) (cond (Nat.ble pc 243) (cond (Nat.ble pc 240) (cond (Nat.beq pc 240) (some (.invokevirtual 110, 3)) none) (cond (Nat.beq pc 243) (some (.ifCond .eq 24, 3)) none)) (cond (Nat.ble pc 246) (cond (Nat.beq pc 246) (some (.aload_n 0, 1)) none) (cond (Nat.beq pc 247) (some (.iload_n 3, 1)) none))) (cond (Nat.ble pc 251) (cond (Nat.ble pc 248) (cond (Nat.beq pc 248) (some (.invokevirtual 110, 3)) none) (cond (Nat.beq pc 251) (some (.ifCond .eq 16, 3)) none)) (cond (Nat.ble pc 254) (cond (Nat.beq pc 254) (some (.aload_n 0, 1)) none) (cond (Nat.beq pc 255) (some (.getfield 32, 3)) none)))) (cond (Nat.ble pc 263) (cond (Nat.ble pc 259) (cond (Nat.ble pc 258) (cond (Nat.beq pc 258) (some (.iload_n 3, 1)) none) (cond (Nat.beq pc 259) (some (.baload, 1)) none)) (cond (Nat.ble pc 260) (cond (Nat.beq pc 260) (some (.ifCond .eq 7, 3)) none) (cond (Nat.beq pc 263) (some (.iconst 1, 1)) none))) (cond (Nat.ble pc 267) (cond (Nat.ble pc 264) (cond (Nat.beq pc 264) (some (.goto 4, 3)) none) (cond (Nat.beq pc 267) (some (.iconst 0, 1)) none)) (cond (Nat.ble pc 268) (cond (Nat.beq pc 268) (some (.ireturn, 1)) none) (cond (Nat.beq pc 269) (some (.iload_n 1, 1)) none))))) (cond (Nat.ble pc 283) (cond (Nat.ble pc 275) (cond (Nat.ble pc 273) (cond (Nat.ble pc 270) (cond (Nat.beq pc 270) (some (.ifCond .lt 28, 3)) none) (cond (Nat.beq pc 273) (some (.iload_n 1, 1)) none)) (cond (Nat.ble pc 274) (cond (Nat.beq pc 274) (some (.iconst 5, 1)) none) (cond (Nat.beq pc 275) (some (.if_icmp .gt 23, 3)) none))) (cond (Nat.ble pc 279) (cond (Nat.ble pc 278) (cond (Nat.beq pc 278) (some (.aload_n 0, 1)) none) (cond (Nat.beq pc 279) (some (.iload_n 2, 1)) none)) (cond (Nat.ble pc 280) (cond (Nat.beq pc 280) (some (.invokevirtual 116, 3)) none) (cond (Nat.beq pc 283) (some (.ifCond .eq 15, 3)) none)))) (cond (Nat.ble pc 291) (cond (Nat.ble pc 287) (cond (Nat.ble pc 286) (cond (Nat.beq pc 286) (some (.aload_n 0, 1)) none) (cond (Nat.beq pc 287) (some (.iload_n 3, 1)) none)) (cond (Nat.ble pc 288) (cond (Nat.beq pc 288) (some (.invokevirtual 116, 3)) none) (cond (Nat.beq pc 291) (some (.ifCond .eq 7, 3)) none))) (cond (Nat.ble pc 295) (cond (Nat.ble pc 294) (cond (Nat.beq pc 294) (some (.iconst 1, 1)) none) (cond (Nat.beq pc 295) (some (.goto 4, 3)) none)) (cond (Nat.ble pc 298) (cond (Nat.beq pc 298) (some (.iconst 0, 1)) none) (cond (Nat.beq pc 299) (some (.ireturn, 1)) none))))))))
set_option maxRecDepth 100000 in
theorem zd73_0 : (List.range' 0 135).all (fun pc => match zI73 pc with | some q => decide (decode (zCode 73) pc = .ok q) | none => true) = true := by decide +kernel
set_option maxRecDepth 100000 in
theorem zd73_1 : (List.range' 135 76).all (fun pc => match zI73 pc with | some q => decide (decode (zCode 73) pc = .ok q) | none => true) = true := by decide +kernel
set_option maxRecDepth 100000 in
theorem zd73_2 : (List.range' 211 75).all (fun pc => match zI73 pc with | some q => decide (decode (zCode 73) pc = .ok q) | none => true) = true := by decide +kernel
set_option maxRecDepth 100000 in
theorem zd73_3 : (List.range' 286 14).all (fun pc => match zI73 pc with | some q => decide (decode (zCode 73) pc = .ok q) | none => true) = true := by decide +kernel
theorem zJ73 {pc : Nat} {q : Jvm.ClassFile.Instr × Nat} (h : zI73 pc = some q) : decode (zCode 73) pc = .ok q := by
  have hb := (z_gd (n := 300) (pc := pc) h).1
  by_cases c0 : pc < 135
  · exact z_ck zd73_0 (by omega) (by omega) h
  by_cases c1 : pc < 211
  · exact z_ck zd73_1 (by omega) (by omega) h
  by_cases c2 : pc < 286
  · exact z_ck zd73_2 (by omega) (by omega) h
  exact z_ck zd73_3 (by omega) (by omega) h
end
section
/-! decoded code, by program (wip/whole/gen2.py) -/
def zI74 (pc : Nat) : Option (Jvm.ClassFile.Instr × Nat) := cond (Nat.ble 36 pc) none (cond (Nat.ble pc 16) (cond (Nat.ble pc 8) (cond (Nat.ble pc 1) (cond (Nat.ble pc 0) (cond (Nat.beq pc 0) (some (.aload_n 0, 1)) none) (cond (Nat.beq pc 1) (some (.iload_n 1, 1)) none)) (cond (Nat.ble pc 2) (cond (Nat.beq pc 2) (some (.invokevirtual 106, 3)) none) (cond (Nat.ble pc 5) (cond (Nat.beq pc 5) (some (.ifCond .eq 29, 3)) none) (cond (Nat.beq pc 8) (some (.aload_n 0, 1)) none)))) (cond (Nat.ble pc 12) (cond (Nat.ble pc 9) (cond (Nat.beq pc 9) (some (.getfield 9, 3)) none) (cond (Nat.beq pc 12) (some (.iload_n 1, 1)) none)) (cond (Nat.ble pc 13) (cond (Nat.beq pc 13) (some (.iaload, 1)) none) (cond (Nat.ble pc 14) (cond (Nat.beq pc 14) (some (.bipush 10, 2)) none) (cond (Nat.beq pc 16) (some (.if_icmp .lt 18, 3)) none))))) (cond (Nat.ble pc 25) (cond (Nat.ble pc 20) (cond (Nat.ble pc 19) (cond (Nat.beq pc 19) (some (.aload_n 0, 1)) none) (cond (Nat.beq pc 20) (some (.getfield 9, 3)) none)) (cond (Nat.ble pc 23) (cond (Nat.beq pc 23) (some (.iload_n 1, 1)) none) (cond (Nat.ble pc 24) (cond (Nat.beq pc 24) (some (.iaload, 1)) none) (cond (Nat.beq pc 25) (some (.bipush 21, 2)) none)))) (cond (Nat.ble pc 30) (cond (Nat.ble pc 27) (cond (Nat.beq pc 27) (some (.if_icmp .gt 7, 3)) none) (cond (Nat.beq pc 30) (some (.iconst 1, 1)) none)) (cond (Nat.ble pc 31) (cond (Nat.beq pc 31) (some (.goto 4, 3)) none) (cond (Nat.ble pc 34) (cond (Nat.beq pc 34) (some (.iconst 0, 1)) none) (cond (Nat.beq pc 35) (some (.ireturn, 1)) none))))))
set_option maxRecDepth 100000 in
theorem zd74_0 : (List.range' 0 36).all (fun pc => match zI74 pc with | some q => decide (decode (zCode 74) pc = .ok q) | none => true) = true := by decide +kernel
theorem zJ74 {pc : Nat} {q : Jvm.ClassFile.Instr × Nat} (h : zI74 pc = some q) : decode (zCode 74) pc = .ok q := by
  have hb := (z_gd (n := 36) (pc := pc) h).1
  exact z_ck zd74_0 (by omega) (by omega) h
def zI75 (pc : Nat) : Option (Jvm.ClassFile.Instr × Nat) := cond (Nat.ble 18 pc) none (cond (Nat.ble pc 6) (cond (Nat.ble pc 1) (cond (Nat.ble pc 0) (cond (Nat.beq pc 0) (some (.iload_n 1, 1)) none) (cond (Nat.beq pc 1) (some (.ifCond .lt 15, 3)) none)) (cond (Nat.ble pc 4) (cond (Nat.beq pc 4) (some (.iload_n 1, 1)) none) (cond (Nat.ble pc 5) (cond (Nat.beq pc 5) (some (.aload_n 0, 1)) none) (cond (Nat.beq pc 6) (some (.getfield 99, 3)) none)))) (cond (Nat.ble pc 12) (cond (Nat.ble pc 9) (cond (Nat.beq pc 9) (some (.if_icmp .ge 7, 3)) none) (cond (Nat.beq pc 12) (some (.iconst 1, 1)) none)) (cond (Nat.ble pc 13) (cond (Nat.beq pc 13) (some (.goto 4, 3)) none) (cond (Nat.ble pc 16) (cond (Nat.beq pc 16) (some (.iconst 0, 1)) none) (cond (Nat.beq pc 17) (some (.ireturn, 1)) none)))))
set_option maxRecDepth 100000 in
theorem zd75_0 : (List.range' 0 18).all (fun pc => match zI75 pc with | some q => decide (decode (zCode 75) pc = .ok q) | none => true) = true := by decide +kernel
theorem zJ75 {pc : Nat} {q : Jvm.ClassFile.Instr × Nat} (h : zI75 pc = some q) : decode (zCode 75) pc = .ok q := by
  have hb := (z_gd (n := 18) (pc := pc) h).1
  exact z_ck zd75_0 (by omega) (by omega) h
def zI76 (pc : Nat) : Option (Jvm.ClassFile.Instr × Nat) := cond (Nat.ble 16 pc) none (cond (Nat.ble pc 5) (cond (Nat.ble pc 1) (cond (Nat.ble pc 0) (cond (Nat.beq pc 0) (some (.iload_n 0, 1)) none) (cond (Nat.beq pc 1) (some (.ifCond .lt 13, 3)) none)) (cond (Nat.ble pc 4) (cond (Nat.beq pc 4) (some (.iload_n 0, 1)) none) (cond (Nat.beq pc 5) (some (.bipush 16, 2)) none))) (cond (Nat.ble pc 10) (cond (Nat.ble pc 7) (cond (Nat.beq pc 7) (some (.if_icmp .ge 7, 3)) none) (cond (Nat.beq pc 10) (some (.iconst 1, 1)) none)) (cond (Nat.ble pc 11) (cond (Nat.beq pc 11) (some (.goto 4, 3)) none) (cond (Nat.ble pc 14) (cond (Nat.beq pc 14) (some (.iconst 0, 1)) none) (cond (Nat.beq pc 15) (some (.ireturn, 1)) none)))))
set_option maxRecDepth 100000 in
theorem zd76_0 : (List.range' 0 16).all (fun pc => match zI76 pc with | some q => decide (decode (zCode 76) pc = .ok q) | none => true) = true := by decide +kernel
theorem zJ76 {pc : Nat} {q : Jvm.ClassFile.Instr × Nat} (h : zI76 pc = some q) : decode (zCode 76) pc = .ok q := by
  have hb := (z_gd (n := 16) (pc := pc) h).1
  exact z_ck zd76_0 (by omega) (by omega) h
def zI77 (pc : Nat) : Option (Jvm.ClassFile.Instr × Nat) := cond (Nat.ble 35 pc) none (cond (Nat.ble pc 16) (cond (Nat.ble pc 8) (cond (Nat.ble pc 1) (cond (Nat.ble pc 0) (cond (Nat.beq pc 0) (some (.aload_n 0, 1)) none) (cond (Nat.beq pc 1) (some (.iload_n 1, 1)) none)) (cond (Nat.ble pc 2) (cond (Nat.beq pc 2) (some (.invokevirtual 106, 3)) none) (cond (Nat.ble pc 5) (cond (Nat.beq pc 5) (some (.ifCond .eq 28, 3)) none) (cond (Nat.beq pc 8) (some (.aload_n 0, 1)) none)))) (cond (Nat.ble pc 12) (cond (Nat.ble pc 9) (cond (Nat.beq pc 9) (some (.getfield 9, 3)) none) (cond (Nat.beq pc 12) (some (.iload_n 1, 1)) none)) (cond (Nat.ble pc 13) (cond (Nat.beq pc 13) (some (.iaload, 1)) none) (cond (Nat.ble pc 14) (cond (Nat.beq pc 14) (some (.bipush 100, 2)) none) (cond (Nat.beq pc 16) (some (.if_icmp .ge 13, 3)) none))))) (cond (Nat.ble pc 25) (cond (Nat.ble pc 20) (cond (Nat.ble pc 19) (cond (Nat.beq pc 19) (some (.aload_n 0, 1)) none) (cond (Nat.beq pc 20) (some (.getfield 9, 3)) none)) (cond (Nat.ble pc 23) (cond (Nat.beq pc 23) (some (.iload_n 1, 1)) none) (cond (Nat.ble pc 24) (cond (Nat.beq pc 24) (some (.iaload, 1)) none) (cond (Nat.beq pc 25) (some (.iconst 5, 1)) none)))) (cond (Nat.ble pc 29) (cond (Nat.ble pc 26) (cond (Nat.beq pc 26) (some (.if_icmp .gt 7, 3)) none) (cond (Nat.beq pc 29) (some (.iconst 1, 1)) none)) (cond (Nat.ble pc 30) (cond (Nat.beq pc 30) (some (.goto 4, 3)) none) (cond (Nat.ble pc 33) (cond (Nat.beq pc 33) (some (.iconst 0, 1)) none) (cond (Nat.beq pc 34) (some (.ireturn, 1)) none))))))
set_option maxRecDepth 100000 in
theorem zd77_0 : (List.range' 0 35).all (fun pc => match zI77 pc with | some q => decide (decode (zCode 77) pc = .ok q) | none => true) = true := by decide +kernel
theorem zJ77 {pc : Nat} {q : Jvm.ClassFile.Instr × Nat} (h : zI77 pc = some q) : decode (zCode 77) pc = .ok q := by
  have hb := (z_gd (n := 35) (pc := pc) h).1
  exact z_ck zd77_0 (by omega) (by omega) h
def zI78 (pc : Nat) : Option (Jvm.ClassFile.Instr × Nat) := cond (Nat.ble 16 pc) none (cond (Nat.ble pc 6) (cond (Nat.ble pc 1) (cond (Nat.ble pc 0) (cond (Nat.beq pc 0) (some (.iload_n 1, 1)) none) (cond (Nat.beq pc 1) (some (.iconst (-1), 1)) none)) (cond (Nat.ble pc 2) (cond (Nat.beq pc 2) (some (.if_icmp .ne 7, 3)) none) (cond (Nat.ble pc 5) (cond (Nat.beq pc 5) (some (.iconst 0, 1)) none) (cond (Nat.beq pc 6) (some (.goto 9, 3)) none)))) (cond (Nat.ble pc 10) (cond (Nat.ble pc 9) (cond (Nat.beq pc 9) (some (.aload_n 0, 1)) none) (cond (Nat.beq pc 10) (some (.getfield 26, 3)) none)) (cond (Nat.ble pc 13) (cond (Nat.beq pc 13) (some (.iload_n 1, 1)) none) (cond (Nat.ble pc 14) (cond (Nat.beq pc 14) (some (.iaload, 1)) none) (cond (Nat.beq pc 15) (some (.ireturn, 1)) none)))))
set_option maxRecDepth 100000 in
theorem zd78_0 : (List.range' 0 16).all (fun pc => match zI78 pc with | some q => decide (decode (zCode 78) pc = .ok q) | none => true) = true := by decide +kernel
theorem zJ78 {pc : Nat} {q : Jvm.ClassFile.Instr × Nat} (h : zI78 pc = some q) : decode (zCode 78) pc = .ok q := by
  have hb := (z_gd (n := 16) (pc := pc) h).1
  exact z_ck zd78_0 (by omega) (by omega) h
def zI79 (pc : Nat) : Option (Jvm.ClassFile.Instr × Nat) := cond (Nat.ble 18 pc) none (cond (Nat.ble pc 9) (cond (Nat.ble pc 4) (cond (Nat.ble pc 0) (cond (Nat.beq pc 0) (some (.iload_n 1, 1)) none) (cond (Nat.ble pc 1) (cond (Nat.beq pc 1) (some (.invokestatic 113, 3)) none) (cond (Nat.beq pc 4) (some (.ifCond .ne 5, 3)) none))) (cond (Nat.ble pc 7) (cond (Nat.beq pc 7) (some (.iconst 0, 1)) none) (cond (Nat.ble pc 8) (cond (Nat.beq pc 8) (some (.ireturn, 1)) none) (cond (Nat.beq pc 9) (some (.aload_n 0, 1)) none)))) (cond (Nat.ble pc 14) (cond (Nat.ble pc 10) (cond (Nat.beq pc 10) (some (.getfield 63, 3)) none) (cond (Nat.ble pc 13) (cond (Nat.beq pc 13) (some (.iload_n 1, 1)) none) (cond (Nat.beq pc 14) (some (.lload_n 2, 1)) none))) (cond (Nat.ble pc 15) (cond (Nat.beq pc 15) (some (.lastore, 1)) none) (cond (Nat.ble pc 16) (cond (Nat.beq pc 16) (some (.iconst 1, 1)) none) (cond (Nat.beq pc 17) (some (.ireturn, 1)) none)))))
set_option maxRecDepth 100000 in
theorem zd79_0 : (List.range' 0 18).all (fun pc => match zI79 pc with | some q => decide (decode (zCode 79) pc = .ok q) | none => true) = true := by decide +kernel
theorem zJ79 {pc : Nat} {q : Jvm.ClassFile.Instr × Nat} (h : zI79 pc = some q) : decode (zCode 79) pc = .ok q := by
  have hb := (z_gd (n := 18) (pc := pc) h).1
  exact z_ck zd79_0 (by omega) (by omega) h
def zI80 (pc : Nat) : Option (Jvm.ClassFile.Instr × Nat) := cond (Nat.ble 103 pc) none (cond (Nat.ble pc 51) (cond (Nat.ble pc 25) (cond (Nat.ble pc 10) (cond (Nat.ble pc 2) (cond (Nat.ble pc 0) (cond (Nat.beq pc 0) (some (.aload_n 0, 1)) none) (cond (Nat.ble pc 1) (cond (Nat.beq pc 1) (some (.iload_n 1, 1)) none) (cond (Nat.beq pc 2) (some (.invokevirtual 110, 3)) none))) (cond (Nat.ble pc 8) (cond (Nat.ble pc 5) (cond (Nat.beq pc 5) (some (.ifCond .ne 5, 3)) none) (cond (Nat.beq pc 8) (some (.iconst (-1), 1)) none)) (cond (Nat.ble pc 9) (cond (Nat.beq pc 9) (some (.ireturn, 1)) none) (cond (Nat.beq pc 10) (some (.aload_n 0, 1)) none)))) (cond (Nat.ble pc 16) (cond (Nat.ble pc 12) (cond (Nat.ble pc 11) (cond (Nat.beq pc 11) (some (.iload_n 1, 1)) none) (cond (Nat.beq pc 12) (some (.invokevirtual 133, 3)) none)) (cond (Nat.ble pc 15) (cond (Nat.beq pc 15) (some (.istore_n 2, 1)) none) (cond (Nat.beq pc 16) (some (.iload_n 2, 1)) none))) (cond (Nat.ble pc 20) (cond (Nat.ble pc 17) (cond (Nat.beq pc 17) (some (.sipush 500, 3)) none) (cond (Nat.beq pc 20) (some (.if_icmp .le 6, 3)) none)) (cond (Nat.ble pc 23) (cond (Nat.beq pc 23) (some (.bipush (-2), 2)) none) (cond (Nat.beq pc 25) (some (.ireturn, 1)) none))))) (cond (Nat.ble pc 36) (cond (Nat.ble pc 28) (cond (Nat.ble pc 26) (cond (Nat.beq pc 26) (some (.aload_n 0, 1)) none) (cond (Nat.ble pc 27) (cond (Nat.beq pc 27) (some (.iconst 0, 1)) none) (cond (Nat.beq pc 28) (some (.putfield 127, 3)) none))) (cond (Nat.ble pc 32) (cond (Nat.ble pc 31) (cond (Nat.beq pc 31) (some (.aload_n 0, 1)) none) (cond (Nat.beq pc 32) (some (.iload_n 1, 1)) none)) (cond (Nat.ble pc 33) (cond (Nat.beq pc 33) (some (.invokevirtual 130, 3)) none) (cond (Nat.beq pc 36) (some (.istore_n 3, 1)) none)))) (cond (Nat.ble pc 42) (cond (Nat.ble pc 38) (cond (Nat.ble pc 37) (cond (Nat.beq pc 37) (some (.iconst 0, 1)) none) (cond (Nat.beq pc 38) (some (.istore 4, 2)) none)) (cond (Nat.ble pc 40) (cond (Nat.beq pc 40) (some (.iload 4, 2)) none) (cond (Nat.beq pc 42) (some (.bipush 16, 2)) none))) (cond (Nat.ble pc 47) (cond (Nat.ble pc 44) (cond (Nat.beq pc 44) (some (.if_icmp .ge 25, 3)) none) (cond (Nat.beq pc 47) (some (.aload_n 0, 1)) none)) (cond (Nat.ble pc 48) (cond (Nat.beq pc 48) (some (.getfield 66, 3)) none) (cond (Nat.beq pc 51) (some (.iload 4, 2)) none)))))) (cond (Nat.ble pc 76) (cond (Nat.ble pc 62) (cond (Nat.ble pc 55) (cond (Nat.ble pc 53) (cond (Nat.beq pc 53) (some (.lconst 0, 1)) none) (cond (Nat.ble pc 54) (cond (Nat.beq pc 54) (some (.lastore, 1)) none) (cond (Nat.beq pc 55) (some (.aload_n 0, 1)) none))) (cond (Nat.ble pc 59) (cond (Nat.ble pc 56) (cond (Nat.beq pc 56) (some (.getfield 69, 3)) none) (cond (Nat.beq pc 59) (some (.iload 4, 2)) none)) (cond (Nat.ble pc 61) (cond (Nat.beq pc 61) (some (.lconst 0, 1)) none) (cond (Nat.beq pc 62) (some (.lastore, 1)) none)))) (cond (Nat.ble pc 70) (cond (Nat.ble pc 66) (cond (Nat.ble pc 63) (cond (Nat.beq pc 63) (some (.iinc 4 1, 3)) none) (cond (Nat.beq pc 66) (some (.goto (-26), 3)) none)) (cond (Nat.ble pc 69) (cond (Nat.beq pc 69) (some (.aload_n 0, 1)) none) (cond (Nat.beq pc 70) (some (.iconst 1, 1)) none))) (cond (Nat.ble pc 74) (cond (Nat.ble pc 71) (cond (Nat.beq pc 71) (some (.putfield 136, 3)) none) (cond (Nat.beq pc 74) (some (.aload_n 0, 1)) none)) (cond (Nat.ble pc 75) (cond (Nat.beq pc 75) (some (.iconst 0, 1)) none) (cond (Nat.beq pc 76) (some (.putfield 140, 3)) none))))) (cond (Nat.ble pc 90) (cond (Nat.ble pc 84) (cond (Nat.ble pc 80) (cond (Nat.ble pc 79) (cond (Nat.beq pc 79) (some (.aload_n 0, 1)) none) (cond (Nat.beq pc 80) (some (.lconst 0, 1)) none)) (cond (Nat.ble pc 81) (cond (Nat.beq pc 81) (some (.putfield 143, 3)) none) (cond (Nat.beq pc 84) (some (.aload_n 0, 1)) none))) (cond (Nat.ble pc 86) (cond (Nat.ble pc 85) (cond (Nat.beq pc 85) (some (.iconst 0, 1)) none) (cond (Nat.beq pc 86) (some (.putfield 147, 3)) none)) (cond (Nat.ble pc 89) (cond (Nat.beq pc 89) (some (.aload_n 0, 1)) none) (cond (Nat.beq pc 90) (some (.iconst 0, 1)) none)))) (cond (Nat.ble pc 96) (cond (Nat.ble pc 94) (cond (Nat.ble pc 91) (cond (Nat.beq pc 91) (some (.putfield 150, 3)) none) (cond (Nat.beq pc 94) (some (.aload_n 0, 1)) none)) (cond (Nat.ble pc 95) (cond (Nat.beq pc 95) (some (.iconst 0, 1)) none) (cond (Nat.beq pc 96) (some (.putfield 153, 3)) none))) (cond (Nat.ble pc 100) (cond (Nat.ble pc 99) (cond (Nat.beq pc 99) (some (.iload_n 2, 1)) none) (cond (Nat.beq pc 100) (some (.iload_n 3, 1)) none)) (cond (Nat.ble pc 101) (cond (Nat.beq pc 101) (some (.isub, 1)) none) (cond (Nat.beq pc 102) (some (.ireturn, 1)) none)))))))
set_option maxRecDepth 100000 in
theorem zd80_0 : (List.range' 0 70).all (fun pc => match zI80 pc with | some q => decide (decode (zCode 80) pc = .ok q) | none => true) = true := by decide +kernel
set_option maxRecDepth 100000 in
theorem zd80_1 : (List.range' 70 33).all (fun pc => match zI80 pc with | some q => decide (decode (zCode 80) pc = .ok q) | none => true) = true := by decide +kernel
theorem zJ80 {pc : Nat} {q : Jvm.ClassFile.Instr × Nat} (h : zI80 pc = some q) : decode (zCode 80) pc = .ok q := by
  have hb := (z_gd (n := 103) (pc := pc) h).1
  by_cases c0 : pc < 70
  · exact z_ck zd80_0 (by omega) (by omega) h
  exact z_ck zd80_1 (by omega) (by omega) h
def zI81 (pc : Nat) : Option (Jvm.ClassFile.Instr × Nat) := cond (Nat.ble 166 pc) none (cond (Nat.ble pc 78) (cond (Nat.ble pc 37) (cond (Nat.ble pc 14) (cond (Nat.ble pc 4) (cond (Nat.ble pc 1) (cond (Nat.ble pc 0) (cond (Nat.beq pc 0) (some (.iconst 0, 1)) none) (cond (Nat.beq pc 1) (some (.istore_n 2, 1)) none)) (cond (Nat.ble pc 2) (cond (Nat.beq pc 2) (some (.iload_n 2, 1)) none) (cond (Nat.ble pc 3) (cond (Nat.beq pc 3) (some (.iload_n 1, 1)) none) (cond (Nat.beq pc 4) (some (.if_icmp .gt 155, 3)) none)))) (cond (Nat.ble pc 11) (cond (Nat.ble pc 7) (cond (Nat.beq pc 7) (some (.aload_n 0, 1)) none) (cond (Nat.ble pc 8) (cond (Nat.beq pc 8) (some (.getfield 9, 3)) none) (cond (Nat.beq pc 11) (some (.iload_n 2, 1)) none))) (cond (Nat.ble pc 12) (cond (Nat.beq pc 12) (some (.iaload, 1)) none) (cond (Nat.ble pc 13) (cond (Nat.beq pc 13) (some (.istore_n 3, 1)) none) (cond (Nat.beq pc 14) (some (.iconst 1, 1)) none))))) (cond (Nat.ble pc 24) (cond (Nat.ble pc 18) (cond (Nat.ble pc 15) (cond (Nat.beq pc 15) (some (.istore 4, 2)) none) (cond (Nat.ble pc 17) (cond (Nat.beq pc 17) (some (.iload_n 3, 1)) none) (cond (Nat.beq pc 18) (some (.bipush 10, 2)) none))) (cond (Nat.ble pc 20) (cond (Nat.beq pc 20) (some (.if_icmp .eq 15, 3)) none) (cond (Nat.ble pc 23) (cond (Nat.beq pc 23) (some (.iload_n 3, 1)) none) (cond (Nat.beq pc 24) (some (.bipush 15, 2)) none)))) (cond (Nat.ble pc 30) (cond (Nat.ble pc 26) (cond (Nat.beq pc 26) (some (.if_icmp .eq 9, 3)) none) (cond (Nat.ble pc 29) (cond (Nat.beq pc 29) (some (.iload_n 3, 1)) none) (cond (Nat.beq pc 30) (some (.bipush 21, 2)) none))) (cond (Nat.ble pc 32) (cond (Nat.beq pc 32) (some (.if_icmp .ne 34, 3)) none) (cond (Nat.ble pc 35) (cond (Nat.beq pc 35) (some (.iload 4, 2)) none) (cond (Nat.beq pc 37) (some (.aload_n 0, 1)) none)))))) (cond (Nat.ble pc 57) (cond (Nat.ble pc 47) (cond (Nat.ble pc 42) (cond (Nat.ble pc 38) (cond (Nat.beq pc 38) (some (.getfield 94, 3)) none) (cond (Nat.ble pc 41) (cond (Nat.beq pc 41) (some (.aload_n 0, 1)) none) (cond (Nat.beq pc 42) (some (.getfield 13, 3)) none))) (cond (Nat.ble pc 45) (cond (Nat.beq pc 45) (some (.iload_n 2, 1)) none) (cond (Nat.ble pc 46) (cond (Nat.beq pc 46) (some (.iaload, 1)) none) (cond (Nat.beq pc 47) (some (.iaload, 1)) none)))) (cond (Nat.ble pc 52) (cond (Nat.ble pc 48) (cond (Nat.beq pc 48) (some (.aload_n 0, 1)) none) (cond (Nat.ble pc 49) (cond (Nat.beq pc 49) (some (.getfield 94, 3)) none) (cond (Nat.beq pc 52) (some (.aload_n 0, 1)) none))) (cond (Nat.ble pc 53) (cond (Nat.beq pc 53) (some (.getfield 16, 3)) none) (cond (Nat.ble pc 56) (cond (Nat.beq pc 56) (some (.iload_n 2, 1)) none) (cond (Nat.beq pc 57) (some (.iaload, 1)) none))))) (cond (Nat.ble pc 66) (cond (Nat.ble pc 60) (cond (Nat.ble pc 58) (cond (Nat.beq pc 58) (some (.iaload, 1)) none) (cond (Nat.ble pc 59) (cond (Nat.beq pc 59) (some (.iadd, 1)) none) (cond (Nat.beq pc 60) (some (.iadd, 1)) none))) (cond (Nat.ble pc 61) (cond (Nat.beq pc 61) (some (.istore 4, 2)) none) (cond (Nat.ble pc 63) (cond (Nat.beq pc 63) (some (.goto 68, 3)) none) (cond (Nat.beq pc 66) (some (.iload_n 3, 1)) none)))) (cond (Nat.ble pc 72) (cond (Nat.ble pc 67) (cond (Nat.beq pc 67) (some (.bipush 16, 2)) none) (cond (Nat.ble pc 69) (cond (Nat.beq pc 69) (some (.if_icmp .eq 15, 3)) none) (cond (Nat.beq pc 72) (some (.iload_n 3, 1)) none))) (cond (Nat.ble pc 73) (cond (Nat.beq pc 73) (some (.bipush 17, 2)) none) (cond (Nat.ble pc 75) (cond (Nat.beq pc 75) (some (.if_icmp .eq 9, 3)) none) (cond (Nat.beq pc 78) (some (.iload_n 3, 1)) none))))))) (cond (Nat.ble pc 120) (cond (Nat.ble pc 97) (cond (Nat.ble pc 87) (cond (Nat.ble pc 81) (cond (Nat.ble pc 79) (cond (Nat.beq pc 79) (some (.bipush 18, 2)) none) (cond (Nat.beq pc 81) (some (.if_icmp .ne 50, 3)) none)) (cond (Nat.ble pc 84) (cond (Nat.beq pc 84) (some (.iload 4, 2)) none) (cond (Nat.ble pc 86) (cond (Nat.beq pc 86) (some (.aload_n 0, 1)) none) (cond (Nat.beq pc 87) (some (.getfield 94, 3)) none)))) (cond (Nat.ble pc 94) (cond (Nat.ble pc 90) (cond (Nat.beq pc 90) (some (.aload_n 0, 1)) none) (cond (Nat.ble pc 91) (cond (Nat.beq pc 91) (some (.getfield 16, 3)) none) (cond (Nat.beq pc 94) (some (.iload_n 2, 1)) none))) (cond (Nat.ble pc 95) (cond (Nat.beq pc 95) (some (.iaload, 1)) none) (cond (Nat.ble pc 96) (cond (Nat.beq pc 96) (some (.iaload, 1)) none) (cond (Nat.beq pc 97) (some (.iload_n 3, 1)) none))))) (cond (Nat.ble pc 108) (cond (Nat.ble pc 103) (cond (Nat.ble pc 98) (cond (Nat.beq pc 98) (some (.bipush 17, 2)) none) (cond (Nat.ble pc 100) (cond (Nat.beq pc 100) (some (.if_icmp .eq 26, 3)) none) (cond (Nat.beq pc 103) (some (.aload_n 0, 1)) none))) (cond (Nat.ble pc 104) (cond (Nat.beq pc 104) (some (.getfield 19, 3)) none) (cond (Nat.ble pc 107) (cond (Nat.beq pc 107) (some (.iload_n 2, 1)) none) (cond (Nat.beq pc 108) (some (.iaload, 1)) none)))) (cond (Nat.ble pc 113) (cond (Nat.ble pc 109) (cond (Nat.beq pc 109) (some (.ifCond .lt 17, 3)) none) (cond (Nat.ble pc 112) (cond (Nat.beq pc 112) (some (.aload_n 0, 1)) none) (cond (Nat.beq pc 113) (some (.getfield 94, 3)) none))) (cond (Nat.ble pc 116) (cond (Nat.beq pc 116) (some (.aload_n 0, 1)) none) (cond (Nat.ble pc 117) (cond (Nat.beq pc 117) (some (.getfield 19, 3)) none) (cond (Nat.beq pc 120) (some (.iload_n 2, 1)) none)))))) (cond (Nat.ble pc 138) (cond (Nat.ble pc 128) (cond (Nat.ble pc 123) (cond (Nat.ble pc 121) (cond (Nat.beq pc 121) (some (.iaload, 1)) none) (cond (Nat.ble pc 122) (cond (Nat.beq pc 122) (some (.iaload, 1)) none) (cond (Nat.beq pc 123) (some (.goto 4, 3)) none))) (cond (Nat.ble pc 126) (cond (Nat.beq pc 126) (some (.iconst 0, 1)) none) (cond (Nat.ble pc 127) (cond (Nat.beq pc 127) (some (.iadd, 1)) none) (cond (Nat.beq pc 128) (some (.iadd, 1)) none)))) (cond (Nat.ble pc 132) (cond (Nat.ble pc 129) (cond (Nat.beq pc 129) (some (.istore 4, 2)) none) (cond (Nat.ble pc 131) (cond (Nat.beq pc 131) (some (.aload_n 0, 1)) none) (cond (Nat.beq pc 132) (some (.getfield 94, 3)) none))) (cond (Nat.ble pc 135) (cond (Nat.beq pc 135) (some (.iload_n 2, 1)) none) (cond (Nat.ble pc 136) (cond (Nat.beq pc 136) (some (.iload 4, 2)) none) (cond (Nat.beq pc 138) (some (.sipush 500, 3)) none))))) (cond (Nat.ble pc 153) (cond (Nat.ble pc 147) (cond (Nat.ble pc 141) (cond (Nat.beq pc 141) (some (.if_icmp .le 9, 3)) none) (cond (Nat.ble pc 144) (cond (Nat.beq pc 144) (some (.sipush 501, 3)) none) (cond (Nat.beq pc 147) (some (.goto 5, 3)) none))) (cond (Nat.ble pc 150) (cond (Nat.beq pc 150) (some (.iload 4, 2)) none) (cond (Nat.ble pc 152) (cond (Nat.beq pc 152) (some (.iastore, 1)) none) (cond (Nat.beq pc 153) (some (.iinc 2 1, 3)) none)))) (cond (Nat.ble pc 160) (cond (Nat.ble pc 156) (cond (Nat.beq pc 156) (some (.goto (-154), 3)) none) (cond (Nat.ble pc 159) (cond (Nat.beq pc 159) (some (.aload_n 0, 1)) none) (cond (Nat.beq pc 160) (some (.getfield 94, 3)) none))) (cond (Nat.ble pc 163) (cond (Nat.beq pc 163) (some (.iload_n 1, 1)) none) (cond (Nat.ble pc 164) (cond (Nat.beq pc 164) (some (.iaload, 1)) none) (cond (Nat.beq pc 165) (some (.ireturn, 1)) none))))))))
set_option maxRecDepth 100000 in
theorem zd81_0 : (List.range' 0 66).all (fun pc => match zI81 pc with | some q => decide (decode (zCode 81) pc = .ok q) | none => true) = true := by decide +kernel
set_option maxRecDepth 100000 in
theorem zd81_1 : (List.range' 66 70).all (fun pc => match zI81 pc with | some q => decide (decode (zCode 81) pc = .ok q) | none => true) = true := by decide +kernel
set_option maxRecDepth 100000 in
theorem zd81_2 : (List.range' 136 30).all (fun pc => match zI81 pc with | some q => decide (decode (zCode 81) pc = .ok q) | none => true) = true := by decide +kernel
theorem zJ81 {pc : Nat} {q : Jvm.ClassFile.Instr × Nat} (h : zI81 pc = some q) : decode (zCode 81) pc = .ok q := by
  have hb := (z_gd (n := 166) (pc := pc) h).1
  by_cases c0 : pc < 66
  · exact z_ck zd81_0 (by omega) (by omega) h
  by_cases c1 : pc < 136
  · exact z_ck zd81_1 (by omega) (by omega) h
  exact z_ck zd81_2 (by omega) (by omega) h
def zI82 (pc : Nat) : Option (Jvm.ClassFile.Instr × Nat) := cond (Nat.ble 190 pc) none (cond (Nat.ble pc 88) (cond (Nat.ble pc 41) (cond (Nat.ble pc 21) (cond (Nat.ble pc 10) (cond (Nat.ble pc 4) (cond (Nat.ble pc 0) (cond (Nat.beq pc 0) (some (.aload_n 0, 1)) none) (cond (Nat.ble pc 1) (cond (Nat.beq pc 1) (some (.getfield 127, 3)) none) (cond (Nat.beq pc 4) (some (.istore_n 2, 1)) none))) (cond (Nat.ble pc 6) (cond (Nat.ble pc 5) (cond (Nat.beq pc 5) (some (.aload_n 0, 1)) none) (cond (Nat.beq pc 6) (some (.dup, 1)) none)) (cond (Nat.ble pc 7) (cond (Nat.beq pc 7) (some (.getfield 127, 3)) none) (cond (Nat.beq pc 10) (some (.iconst 1, 1)) none)))) (cond (Nat.ble pc 15) (cond (Nat.ble pc 11) (cond (Nat.beq pc 11) (some (.iadd, 1)) none) (cond (Nat.ble pc 12) (cond (Nat.beq pc 12) (some (.putfield 127, 3)) none) (cond (Nat.beq pc 15) (some (.aload_n 0, 1)) none))) (cond (Nat.ble pc 19) (cond (Nat.ble pc 16) (cond (Nat.beq pc 16) (some (.getfield 36, 3)) none) (cond (Nat.beq pc 19) (some (.iload_n 2, 1)) none)) (cond (Nat.ble pc 20) (cond (Nat.beq pc 20) (some (.iload_n 1, 1)) none) (cond (Nat.beq pc 21) (some (.iastore, 1)) none))))) (cond (Nat.ble pc 30) (cond (Nat.ble pc 26) (cond (Nat.ble pc 22) (cond (Nat.beq pc 22) (some (.aload_n 0, 1)) none) (cond (Nat.ble pc 23) (cond (Nat.beq pc 23) (some (.getfield 45, 3)) none) (cond (Nat.beq pc 26) (some (.iload_n 2, 1)) none))) (cond (Nat.ble pc 28) (cond (Nat.ble pc 27) (cond (Nat.beq pc 27) (some (.iconst 0, 1)) none) (cond (Nat.beq pc 28) (some (.bastore, 1)) none)) (cond (Nat.ble pc 29) (cond (Nat.beq pc 29) (some (.aload_n 0, 1)) none) (cond (Nat.beq pc 30) (some (.getfield 39, 3)) none)))) (cond (Nat.ble pc 35) (cond (Nat.ble pc 33) (cond (Nat.beq pc 33) (some (.iload_n 2, 1)) none) (cond (Nat.ble pc 34) (cond (Nat.beq pc 34) (some (.iconst (-1), 1)) none) (cond (Nat.beq pc 35) (some (.iastore, 1)) none))) (cond (Nat.ble pc 37) (cond (Nat.ble pc 36) (cond (Nat.beq pc 36) (some (.aload_n 0, 1)) none) (cond (Nat.beq pc 37) (some (.getfield 42, 3)) none)) (cond (Nat.ble pc 40) (cond (Nat.beq pc 40) (some (.iload_n 2, 1)) none) (cond (Nat.beq pc 41) (some (.iconst (-1), 1)) none)))))) (cond (Nat.ble pc 63) (cond (Nat.ble pc 50) (cond (Nat.ble pc 44) (cond (Nat.ble pc 42) (cond (Nat.beq pc 42) (some (.iastore, 1)) none) (cond (Nat.ble pc 43) (cond (Nat.beq pc 43) (some (.aload_n 0, 1)) none) (cond (Nat.beq pc 44) (some (.getfield 9, 3)) none))) (cond (Nat.ble pc 48) (cond (Nat.ble pc 47) (cond (Nat.beq pc 47) (some (.iload_n 1, 1)) none) (cond (Nat.beq pc 48) (some (.iaload, 1)) none)) (cond (Nat.ble pc 49) (cond (Nat.beq pc 49) (some (.istore_n 3, 1)) none) (cond (Nat.beq pc 50) (some (.iload_n 3, 1)) none)))) (cond (Nat.ble pc 56) (cond (Nat.ble pc 51) (cond (Nat.beq pc 51) (some (.bipush 10, 2)) none) (cond (Nat.ble pc 53) (cond (Nat.beq pc 53) (some (.if_icmp .eq 15, 3)) none) (cond (Nat.beq pc 56) (some (.iload_n 3, 1)) none))) (cond (Nat.ble pc 59) (cond (Nat.ble pc 57) (cond (Nat.beq pc 57) (some (.bipush 15, 2)) none) (cond (Nat.beq pc 59) (some (.if_icmp .eq 9, 3)) none)) (cond (Nat.ble pc 62) (cond (Nat.beq pc 62) (some (.iload_n 3, 1)) none) (cond (Nat.beq pc 63) (some (.bipush 21, 2)) none))))) (cond (Nat.ble pc 75) (cond (Nat.ble pc 69) (cond (Nat.ble pc 65) (cond (Nat.beq pc 65) (some (.if_icmp .ne 46, 3)) none) (cond (Nat.ble pc 68) (cond (Nat.beq pc 68) (some (.aload_n 0, 1)) none) (cond (Nat.beq pc 69) (some (.aload_n 0, 1)) none))) (cond (Nat.ble pc 73) (cond (Nat.ble pc 70) (cond (Nat.beq pc 70) (some (.getfield 13, 3)) none) (cond (Nat.beq pc 73) (some (.iload_n 1, 1)) none)) (cond (Nat.ble pc 74) (cond (Nat.beq pc 74) (some (.iaload, 1)) none) (cond (Nat.beq pc 75) (some (.invokevirtual 130, 3)) none)))) (cond (Nat.ble pc 81) (cond (Nat.ble pc 78) (cond (Nat.beq pc 78) (some (.istore 4, 2)) none) (cond (Nat.ble pc 80) (cond (Nat.beq pc 80) (some (.aload_n 0, 1)) none) (cond (Nat.beq pc 81) (some (.getfield 39, 3)) none))) (cond (Nat.ble pc 85) (cond (Nat.ble pc 84) (cond (Nat.beq pc 84) (some (.iload_n 2, 1)) none) (cond (Nat.beq pc 85) (some (.iload 4, 2)) none)) (cond (Nat.ble pc 87) (cond (Nat.beq pc 87) (some (.iastore, 1)) none) (cond (Nat.beq pc 88) (some (.aload_n 0, 1)) none))))))) (cond (Nat.ble pc 139) (cond (Nat.ble pc 112) (cond (Nat.ble pc 100) (cond (Nat.ble pc 93) (cond (Nat.ble pc 89) (cond (Nat.beq pc 89) (some (.aload_n 0, 1)) none) (cond (Nat.ble pc 90) (cond (Nat.beq pc 90) (some (.getfield 16, 3)) none) (cond (Nat.beq pc 93) (some (.iload_n 1, 1)) none))) (cond (Nat.ble pc 95) (cond (Nat.ble pc 94) (cond (Nat.beq pc 94) (some (.iaload, 1)) none) (cond (Nat.beq pc 95) (some (.invokevirtual 130, 3)) none)) (cond (Nat.ble pc 98) (cond (Nat.beq pc 98) (some (.istore 4, 2)) none) (cond (Nat.beq pc 100) (some (.aload_n 0, 1)) none)))) (cond (Nat.ble pc 105) (cond (Nat.ble pc 101) (cond (Nat.beq pc 101) (some (.getfield 42, 3)) none) (cond (Nat.ble pc 104) (cond (Nat.beq pc 104) (some (.iload_n 2, 1)) none) (cond (Nat.beq pc 105) (some (.iload 4, 2)) none))) (cond (Nat.ble pc 108) (cond (Nat.ble pc 107) (cond (Nat.beq pc 107) (some (.iastore, 1)) none) (cond (Nat.beq pc 108) (some (.goto 80, 3)) none)) (cond (Nat.ble pc 111) (cond (Nat.beq pc 111) (some (.iload_n 3, 1)) none) (cond (Nat.beq pc 112) (some (.bipush 16, 2)) none))))) (cond (Nat.ble pc 126) (cond (Nat.ble pc 118) (cond (Nat.ble pc 114) (cond (Nat.beq pc 114) (some (.if_icmp .eq 15, 3)) none) (cond (Nat.ble pc 117) (cond (Nat.beq pc 117) (some (.iload_n 3, 1)) none) (cond (Nat.beq pc 118) (some (.bipush 17, 2)) none))) (cond (Nat.ble pc 123) (cond (Nat.ble pc 120) (cond (Nat.beq pc 120) (some (.if_icmp .eq 9, 3)) none) (cond (Nat.beq pc 123) (some (.iload_n 3, 1)) none)) (cond (Nat.ble pc 124) (cond (Nat.beq pc 124) (some (.bipush 18, 2)) none) (cond (Nat.beq pc 126) (some (.if_icmp .ne 62, 3)) none)))) (cond (Nat.ble pc 131) (cond (Nat.ble pc 129) (cond (Nat.beq pc 129) (some (.aload_n 0, 1)) none) (cond (Nat.ble pc 130) (cond (Nat.beq pc 130) (some (.aload_n 0, 1)) none) (cond (Nat.beq pc 131) (some (.getfield 16, 3)) none))) (cond (Nat.ble pc 135) (cond (Nat.ble pc 134) (cond (Nat.beq pc 134) (some (.iload_n 1, 1)) none) (cond (Nat.beq pc 135) (some (.iaload, 1)) none)) (cond (Nat.ble pc 136) (cond (Nat.beq pc 136) (some (.invokevirtual 130, 3)) none) (cond (Nat.beq pc 139) (some (.istore 4, 2)) none)))))) (cond (Nat.ble pc 164) (cond (Nat.ble pc 150) (cond (Nat.ble pc 145) (cond (Nat.ble pc 141) (cond (Nat.beq pc 141) (some (.aload_n 0, 1)) none) (cond (Nat.ble pc 142) (cond (Nat.beq pc 142) (some (.getfield 39, 3)) none) (cond (Nat.beq pc 145) (some (.iload_n 2, 1)) none))) (cond (Nat.ble pc 148) (cond (Nat.ble pc 146) (cond (Nat.beq pc 146) (some (.iload 4, 2)) none) (cond (Nat.beq pc 148) (some (.iastore, 1)) none)) (cond (Nat.ble pc 149) (cond (Nat.beq pc 149) (some (.iload_n 3, 1)) none) (cond (Nat.beq pc 150) (some (.bipush 17, 2)) none)))) (cond (Nat.ble pc 156) (cond (Nat.ble pc 152) (cond (Nat.beq pc 152) (some (.if_icmp .eq 25, 3)) none) (cond (Nat.ble pc 155) (cond (Nat.beq pc 155) (some (.aload_n 0, 1)) none) (cond (Nat.beq pc 156) (some (.getfield 19, 3)) none))) (cond (Nat.ble pc 160) (cond (Nat.ble pc 159) (cond (Nat.beq pc 159) (some (.iload_n 1, 1)) none) (cond (Nat.beq pc 160) (some (.iaload, 1)) none)) (cond (Nat.ble pc 161) (cond (Nat.beq pc 161) (some (.ifCond .lt 16, 3)) none) (cond (Nat.beq pc 164) (some (.aload_n 0, 1)) none))))) (cond (Nat.ble pc 177) (cond (Nat.ble pc 169) (cond (Nat.ble pc 165) (cond (Nat.beq pc 165) (some (.aload_n 0, 1)) none) (cond (Nat.ble pc 166) (cond (Nat.beq pc 166) (some (.getfield 19, 3)) none) (cond (Nat.beq pc 169) (some (.iload_n 1, 1)) none))) (cond (Nat.ble pc 171) (cond (Nat.ble pc 170) (cond (Nat.beq pc 170) (some (.iaload, 1)) none) (cond (Nat.beq pc 171) (some (.invokevirtual 130, 3)) none)) (cond (Nat.ble pc 174) (cond (Nat.beq pc 174) (some (.goto 4, 3)) none) (cond (Nat.beq pc 177) (some (.iconst (-1), 1)) none)))) (cond (Nat.ble pc 184) (cond (Nat.ble pc 180) (cond (Nat.ble pc 178) (cond (Nat.beq pc 178) (some (.istore 4, 2)) none) (cond (Nat.beq pc 180) (some (.aload_n 0, 1)) none)) (cond (Nat.ble pc 181) (cond (Nat.beq pc 181) (some (.getfield 42, 3)) none) (cond (Nat.beq pc 184) (some (.iload_n 2, 1)) none))) (cond (Nat.ble pc 187) (cond (Nat.ble pc 185) (cond (Nat.beq pc 185) (some (.iload 4, 2)) none) (cond (Nat.beq pc 187) (some (.iastore, 1)) none)) (cond (Nat.ble pc 188) (cond (Nat.beq pc 188) (some (.iload_n 2, 1)) none) (cond (Nat.beq pc 189) (some (.ireturn, 1)) none))))))))
set_option maxRecDepth 100000 in
theorem zd82_0 : (List.range' 0 62).all (fun pc => match zI82 pc with | some q => decide (decode (zCode 82) pc = .ok q) | none => true) = true := by decide +kernel
set_option maxRecDepth 100000 in
theorem zd82_1 : (List.range' 62 72).all (fun pc => match zI82 pc with | some q => decide (decode (zCode 82) pc = .ok q) | none => true) = true := by decide +kernel
set_option maxRecDepth 100000 in
theorem zd82_2 : (List.range' 134 56).all (fun pc => match zI82 pc with | some q => decide (decode (zCode 82) pc = .ok q) | none => true) = true := by decide +kernel
theorem zJ82 {pc : Nat} {q : Jvm.ClassFile.Instr × Nat} (h : zI82 pc = some q) : decode (zCode 82) pc = .ok q := by
  have hb := (z_gd (n := 190) (pc := pc) h).1
  by_cases c0 : pc < 62
  · exact z_ck zd82_0 (by omega) (by omega) h
  by_cases c1 : pc < 134
  · exact z_ck zd82_1 (by omega) (by omega) h
  exact z_ck zd82_2 (by omega) (by omega) h
def zI83 (pc : Nat) : Option (Jvm.ClassFile.Instr × Nat) := cond (Nat.ble 101 pc) none (cond (Nat.ble pc 48) (cond (Nat.ble pc 22) (cond (Nat.ble pc 11) (cond (Nat.ble pc 4) (cond (Nat.ble pc 0) (cond (Nat.beq pc 0) (some (.aload_n 0, 1)) none) (cond (Nat.ble pc 1) (cond (Nat.beq pc 1) (some (.getfield 136, 3)) none) (cond (Nat.beq pc 4) (some (.ifCond .eq 14, 3)) none))) (cond (Nat.ble pc 7) (cond (Nat.beq pc 7) (some (.iload_n 1, 1)) none) (cond (Nat.ble pc 8) (cond (Nat.beq pc 8) (some (.ifCond .lt 10, 3)) none) (cond (Nat.beq pc 11) (some (.iload_n 1, 1)) none)))) (cond (Nat.ble pc 18) (cond (Nat.ble pc 12) (cond (Nat.beq pc 12) (some (.sipush 10000, 3)) none) (cond (Nat.ble pc 15) (cond (Nat.beq pc 15) (some (.if_icmp .le 5, 3)) none) (cond (Nat.beq pc 18) (some (.iconst (-1), 1)) none))) (cond (Nat.ble pc 20) (cond (Nat.ble pc 19) (cond (Nat.beq pc 19) (some (.ireturn, 1)) none) (cond (Nat.beq pc 20) (some (.iconst 0, 1)) none)) (cond (Nat.ble pc 21) (cond (Nat.beq pc 21) (some (.istore_n 2, 1)) none) (cond (Nat.beq pc 22) (some (.iload_n 2, 1)) none))))) (cond (Nat.ble pc 35) (cond (Nat.ble pc 27) (cond (Nat.ble pc 23) (cond (Nat.beq pc 23) (some (.iload_n 1, 1)) none) (cond (Nat.ble pc 24) (cond (Nat.beq pc 24) (some (.if_icmp .ge 72, 3)) none) (cond (Nat.beq pc 27) (some (.aload_n 0, 1)) none))) (cond (Nat.ble pc 31) (cond (Nat.ble pc 28) (cond (Nat.beq pc 28) (some (.getfield 140, 3)) none) (cond (Nat.beq pc 31) (some (.ifCond .ne 65, 3)) none)) (cond (Nat.ble pc 34) (cond (Nat.beq pc 34) (some (.aload_n 0, 1)) none) (cond (Nat.beq pc 35) (some (.iconst 0, 1)) none)))) (cond (Nat.ble pc 40) (cond (Nat.ble pc 36) (cond (Nat.beq pc 36) (some (.putfield 164, 3)) none) (cond (Nat.ble pc 39) (cond (Nat.beq pc 39) (some (.aload_n 0, 1)) none) (cond (Nat.beq pc 40) (some (.iconst 0, 1)) none))) (cond (Nat.ble pc 44) (cond (Nat.ble pc 41) (cond (Nat.beq pc 41) (some (.invokevirtual 202, 3)) none) (cond (Nat.beq pc 44) (some (.ifCond .eq 11, 3)) none)) (cond (Nat.ble pc 47) (cond (Nat.beq pc 47) (some (.aload_n 0, 1)) none) (cond (Nat.beq pc 48) (some (.iconst 0, 1)) none)))))) (cond (Nat.ble pc 72) (cond (Nat.ble pc 59) (cond (Nat.ble pc 55) (cond (Nat.ble pc 49) (cond (Nat.beq pc 49) (some (.invokevirtual 183, 3)) none) (cond (Nat.ble pc 52) (cond (Nat.beq pc 52) (some (.goto 4, 3)) none) (cond (Nat.beq pc 55) (some (.iconst 2, 1)) none))) (cond (Nat.ble pc 57) (cond (Nat.ble pc 56) (cond (Nat.beq pc 56) (some (.istore_n 3, 1)) none) (cond (Nat.beq pc 57) (some (.aload_n 0, 1)) none)) (cond (Nat.ble pc 58) (cond (Nat.beq pc 58) (some (.iload_n 3, 1)) none) (cond (Nat.beq pc 59) (some (.iconst 1, 1)) none)))) (cond (Nat.ble pc 64) (cond (Nat.ble pc 60) (cond (Nat.beq pc 60) (some (.if_icmp .ne 7, 3)) none) (cond (Nat.ble pc 63) (cond (Nat.beq pc 63) (some (.iconst 1, 1)) none) (cond (Nat.beq pc 64) (some (.goto 13, 3)) none))) (cond (Nat.ble pc 68) (cond (Nat.ble pc 67) (cond (Nat.beq pc 67) (some (.iload_n 3, 1)) none) (cond (Nat.beq pc 68) (some (.iconst 2, 1)) none)) (cond (Nat.ble pc 69) (cond (Nat.beq pc 69) (some (.if_icmp .ne 7, 3)) none) (cond (Nat.beq pc 72) (some (.iconst 2, 1)) none))))) (cond (Nat.ble pc 85) (cond (Nat.ble pc 77) (cond (Nat.ble pc 73) (cond (Nat.beq pc 73) (some (.goto 4, 3)) none) (cond (Nat.ble pc 76) (cond (Nat.beq pc 76) (some (.iconst 0, 1)) none) (cond (Nat.beq pc 77) (some (.putfield 140, 3)) none))) (cond (Nat.ble pc 81) (cond (Nat.ble pc 80) (cond (Nat.beq pc 80) (some (.aload_n 0, 1)) none) (cond (Nat.beq pc 81) (some (.dup, 1)) none)) (cond (Nat.ble pc 82) (cond (Nat.beq pc 82) (some (.getfield 143, 3)) none) (cond (Nat.beq pc 85) (some (.lconst 1, 1)) none)))) (cond (Nat.ble pc 90) (cond (Nat.ble pc 86) (cond (Nat.beq pc 86) (some (.ladd, 1)) none) (cond (Nat.ble pc 87) (cond (Nat.beq pc 87) (some (.putfield 143, 3)) none) (cond (Nat.beq pc 90) (some (.iinc 2 1, 3)) none))) (cond (Nat.ble pc 96) (cond (Nat.ble pc 93) (cond (Nat.beq pc 93) (some (.goto (-71), 3)) none) (cond (Nat.beq pc 96) (some (.aload_n 0, 1)) none)) (cond (Nat.ble pc 97) (cond (Nat.beq pc 97) (some (.getfield 140, 3)) none) (cond (Nat.beq pc 100) (some (.ireturn, 1)) none)))))))
set_option maxRecDepth 100000 in
theorem zd83_0 : (List.range' 0 72).all (fun pc => match zI83 pc with | some q => decide (decode (zCode 83) pc = .ok q) | none => true) = true := by decide +kernel
set_option maxRecDepth 100000 in
theorem zd83_1 : (List.range' 72 29).all (fun pc => match zI83 pc with | some q => decide (decode (zCode 83) pc = .ok q) | none => true) = true := by decide +kernel
theorem zJ83 {pc : Nat} {q : Jvm.ClassFile.Instr × Nat} (h : zI83 pc = some q) : decode (zCode 83) pc = .ok q := by
  have hb := (z_gd (n := 101) (pc := pc) h).1
  by_cases c0 : pc < 72
  · exact z_ck zd83_0 (by omega) (by omega) h
  exact z_ck zd83_1 (by omega) (by omega) h
def zI84 (pc : Nat) : Option (Jvm.ClassFile.Instr × Nat) := cond (Nat.ble 364 pc) none (cond (Nat.ble pc 212) (cond (Nat.ble pc 134) (cond (Nat.ble pc 95) (cond (Nat.ble pc 16) (cond (Nat.ble pc 6) (cond (Nat.ble pc 1) (cond (Nat.ble pc 0) (cond (Nat.beq pc 0) (some (.aload_n 0, 1)) none) (cond (Nat.beq pc 1) (some (.getfield 45, 3)) none)) (cond (Nat.ble pc 4) (cond (Nat.beq pc 4) (some (.iload_n 1, 1)) none) (cond (Nat.ble pc 5) (cond (Nat.beq pc 5) (some (.baload, 1)) none) (cond (Nat.beq pc 6) (some (.ifCond .ne 5, 3)) none)))) (cond (Nat.ble pc 11) (cond (Nat.ble pc 9) (cond (Nat.beq pc 9) (some (.iconst 1, 1)) none) (cond (Nat.ble pc 10) (cond (Nat.beq pc 10) (some (.ireturn, 1)) none) (cond (Nat.beq pc 11) (some (.aload_n 0, 1)) none))) (cond (Nat.ble pc 12) (cond (Nat.beq pc 12) (some (.getfield 9, 3)) none) (cond (Nat.ble pc 15) (cond (Nat.beq pc 15) (some (.aload_n 0, 1)) none) (cond (Nat.beq pc 16) (some (.getfield 36, 3)) none))))) (cond (Nat.ble pc 85) (cond (Nat.ble pc 21) (cond (Nat.ble pc 19) (cond (Nat.beq pc 19) (some (.iload_n 1, 1)) none) (cond (Nat.ble pc 20) (cond (Nat.beq pc 20) (some (.iaload, 1)) none) (cond (Nat.beq pc 21) (some (.iaload, 1)) none))) (cond (Nat.ble pc 22) (cond (Nat.beq pc 22) (some (.tableswitch 235 10 21 #[62, 235, 235, 235, 235, 149, 91, 138, 232, 235, 235, 203], 62)) none) (cond (Nat.ble pc 84) (cond (Nat.beq pc 84) (some (.aload_n 0, 1)) none) (cond (Nat.beq pc 85) (some (.aload_n 0, 1)) none)))) (cond (Nat.ble pc 90) (cond (Nat.ble pc 86) (cond (Nat.beq pc 86) (some (.getfield 48, 3)) none) (cond (Nat.ble pc 89) (cond (Nat.beq pc 89) (some (.iload_n 1, 1)) none) (cond (Nat.beq pc 90) (some (.iaload, 1)) none))) (cond (Nat.ble pc 91) (cond (Nat.beq pc 91) (some (.ifCond .ne 12, 3)) none) (cond (Nat.ble pc 94) (cond (Nat.beq pc 94) (some (.aload_n 0, 1)) none) (cond (Nat.beq pc 95) (some (.getfield 39, 3)) none)))))) (cond (Nat.ble pc 114) (cond (Nat.ble pc 104) (cond (Nat.ble pc 99) (cond (Nat.ble pc 98) (cond (Nat.beq pc 98) (some (.iload_n 1, 1)) none) (cond (Nat.beq pc 99) (some (.iaload, 1)) none)) (cond (Nat.ble pc 100) (cond (Nat.beq pc 100) (some (.goto 9, 3)) none) (cond (Nat.ble pc 103) (cond (Nat.beq pc 103) (some (.aload_n 0, 1)) none) (cond (Nat.beq pc 104) (some (.getfield 42, 3)) none)))) (cond (Nat.ble pc 109) (cond (Nat.ble pc 107) (cond (Nat.beq pc 107) (some (.iload_n 1, 1)) none) (cond (Nat.ble pc 108) (cond (Nat.beq pc 108) (some (.iaload, 1)) none) (cond (Nat.beq pc 109) (some (.invokevirtual 202, 3)) none))) (cond (Nat.ble pc 112) (cond (Nat.beq pc 112) (some (.ireturn, 1)) none) (cond (Nat.ble pc 113) (cond (Nat.beq pc 113) (some (.aload_n 0, 1)) none) (cond (Nat.beq pc 114) (some (.getfield 48, 3)) none))))) (cond (Nat.ble pc 124) (cond (Nat.ble pc 119) (cond (Nat.ble pc 117) (cond (Nat.beq pc 117) (some (.iload_n 1, 1)) none) (cond (Nat.ble pc 118) (cond (Nat.beq pc 118) (some (.iaload, 1)) none) (cond (Nat.beq pc 119) (some (.iconst 2, 1)) none))) (cond (Nat.ble pc 120) (cond (Nat.beq pc 120) (some (.if_icmp .eq 34, 3)) none) (cond (Nat.ble pc 123) (cond (Nat.beq pc 123) (some (.aload_n 0, 1)) none) (cond (Nat.beq pc 124) (some (.aload_n 0, 1)) none)))) (cond (Nat.ble pc 129) (cond (Nat.ble pc 125) (cond (Nat.beq pc 125) (some (.getfield 48, 3)) none) (cond (Nat.ble pc 128) (cond (Nat.beq pc 128) (some (.iload_n 1, 1)) none) (cond (Nat.beq pc 129) (some (.iaload, 1)) none))) (cond (Nat.ble pc 130) (cond (Nat.beq pc 130) (some (.ifCond .ne 12, 3)) none) (cond (Nat.ble pc 133) (cond (Nat.beq pc 133) (some (.aload_n 0, 1)) none) (cond (Nat.beq pc 134) (some (.getfield 39, 3)) none))))))) (cond (Nat.ble pc 175) (cond (Nat.ble pc 155) (cond (Nat.ble pc 143) (cond (Nat.ble pc 138) (cond (Nat.ble pc 137) (cond (Nat.beq pc 137) (some (.iload_n 1, 1)) none) (cond (Nat.beq pc 138) (some (.iaload, 1)) none)) (cond (Nat.ble pc 139) (cond (Nat.beq pc 139) (some (.goto 9, 3)) none) (cond (Nat.ble pc 142) (cond (Nat.beq pc 142) (some (.aload_n 0, 1)) none) (cond (Nat.beq pc 143) (some (.getfield 42, 3)) none)))) (cond (Nat.ble pc 148) (cond (Nat.ble pc 146) (cond (Nat.beq pc 146) (some (.iload_n 1, 1)) none) (cond (Nat.ble pc 147) (cond (Nat.beq pc 147) (some (.iaload, 1)) none) (cond (Nat.beq pc 148) (some (.invokevirtual 202, 3)) none))) (cond (Nat.ble pc 151) (cond (Nat.beq pc 151) (some (.ifCond .eq 7, 3)) none) (cond (Nat.ble pc 154) (cond (Nat.beq pc 154) (some (.iconst 1, 1)) none) (cond (Nat.beq pc 155) (some (.goto 4, 3)) none))))) (cond (Nat.ble pc 165) (cond (Nat.ble pc 160) (cond (Nat.ble pc 158) (cond (Nat.beq pc 158) (some (.iconst 0, 1)) none) (cond (Nat.ble pc 159) (cond (Nat.beq pc 159) (some (.ireturn, 1)) none) (cond (Nat.beq pc 160) (some (.aload_n 0, 1)) none))) (cond (Nat.ble pc 161) (cond (Nat.beq pc 161) (some (.aload_n 0, 1)) none) (cond (Nat.ble pc 162) (cond (Nat.beq pc 162) (some (.getfield 39, 3)) none) (cond (Nat.beq pc 165) (some (.iload_n 1, 1)) none)))) (cond (Nat.ble pc 170) (cond (Nat.ble pc 166) (cond (Nat.beq pc 166) (some (.iaload, 1)) none) (cond (Nat.ble pc 167) (cond (Nat.beq pc 167) (some (.invokevirtual 202, 3)) none) (cond (Nat.beq pc 170) (some (.ireturn, 1)) none))) (cond (Nat.ble pc 171) (cond (Nat.beq pc 171) (some (.aload_n 0, 1)) none) (cond (Nat.ble pc 172) (cond (Nat.beq pc 172) (some (.getfield 48, 3)) none) (cond (Nat.beq pc 175) (some (.iload_n 1, 1)) none)))))) (cond (Nat.ble pc 192) (cond (Nat.ble pc 182) (cond (Nat.ble pc 177) (cond (Nat.ble pc 176) (cond (Nat.beq pc 176) (some (.iaload, 1)) none) (cond (Nat.beq pc 177) (some (.iconst 1, 1)) none)) (cond (Nat.ble pc 178) (cond (Nat.beq pc 178) (some (.iand, 1)) none) (cond (Nat.ble pc 179) (cond (Nat.beq pc 179) (some (.ifCond .ne 16, 3)) none) (cond (Nat.beq pc 182) (some (.aload_n 0, 1)) none)))) (cond (Nat.ble pc 187) (cond (Nat.ble pc 183) (cond (Nat.beq pc 183) (some (.aload_n 0, 1)) none) (cond (Nat.ble pc 184) (cond (Nat.beq pc 184) (some (.getfield 39, 3)) none) (cond (Nat.beq pc 187) (some (.iload_n 1, 1)) none))) (cond (Nat.ble pc 188) (cond (Nat.beq pc 188) (some (.iaload, 1)) none) (cond (Nat.ble pc 189) (cond (Nat.beq pc 189) (some (.invokevirtual 202, 3)) none) (cond (Nat.beq pc 192) (some (.ifCond .eq 31, 3)) none))))) (cond (Nat.ble pc 202) (cond (Nat.ble pc 199) (cond (Nat.ble pc 195) (cond (Nat.beq pc 195) (some (.aload_n 0, 1)) none) (cond (Nat.ble pc 196) (cond (Nat.beq pc 196) (some (.getfield 48, 3)) none) (cond (Nat.beq pc 199) (some (.iload_n 1, 1)) none))) (cond (Nat.ble pc 200) (cond (Nat.beq pc 200) (some (.iaload, 1)) none) (cond (Nat.ble pc 201) (cond (Nat.beq pc 201) (some (.iconst 2, 1)) none) (cond (Nat.beq pc 202) (some (.iand, 1)) none)))) (cond (Nat.ble pc 207) (cond (Nat.ble pc 203) (cond (Nat.beq pc 203) (some (.ifCond .ne 16, 3)) none) (cond (Nat.ble pc 206) (cond (Nat.beq pc 206) (some (.aload_n 0, 1)) none) (cond (Nat.beq pc 207) (some (.aload_n 0, 1)) none))) (cond (Nat.ble pc 208) (cond (Nat.beq pc 208) (some (.getfield 42, 3)) none) (cond (Nat.ble pc 211) (cond (Nat.beq pc 211) (some (.iload_n 1, 1)) none) (cond (Nat.beq pc 212) (some (.iaload, 1)) none)))))))) (cond (Nat.ble pc 290) (cond (Nat.ble pc 253) (cond (Nat.ble pc 231) (cond (Nat.ble pc 223) (cond (Nat.ble pc 216) (cond (Nat.ble pc 213) (cond (Nat.beq pc 213) (some (.invokevirtual 202, 3)) none) (cond (Nat.beq pc 216) (some (.ifCond .eq 7, 3)) none)) (cond (Nat.ble pc 219) (cond (Nat.beq pc 219) (some (.iconst 1, 1)) none) (cond (Nat.ble pc 220) (cond (Nat.beq pc 220) (some (.goto 4, 3)) none) (cond (Nat.beq pc 223) (some (.iconst 0, 1)) none)))) (cond (Nat.ble pc 226) (cond (Nat.ble pc 224) (cond (Nat.beq pc 224) (some (.ireturn, 1)) none) (cond (Nat.ble pc 225) (cond (Nat.beq pc 225) (some (.aload_n 0, 1)) none) (cond (Nat.beq pc 226) (some (.getfield 48, 3)) none))) (cond (Nat.ble pc 229) (cond (Nat.beq pc 229) (some (.iload_n 1, 1)) none) (cond (Nat.ble pc 230) (cond (Nat.beq pc 230) (some (.iaload, 1)) none) (cond (Nat.beq pc 231) (some (.iconst 1, 1)) none))))) (cond (Nat.ble pc 241) (cond (Nat.ble pc 236) (cond (Nat.ble pc 232) (cond (Nat.beq pc 232) (some (.if_icmp .eq 16, 3)) none) (cond (Nat.ble pc 235) (cond (Nat.beq pc 235) (some (.aload_n 0, 1)) none) (cond (Nat.beq pc 236) (some (.aload_n 0, 1)) none))) (cond (Nat.ble pc 237) (cond (Nat.beq pc 237) (some (.getfield 39, 3)) none) (cond (Nat.ble pc 240) (cond (Nat.beq pc 240) (some (.iload_n 1, 1)) none) (cond (Nat.beq pc 241) (some (.iaload, 1)) none)))) (cond (Nat.ble pc 248) (cond (Nat.ble pc 242) (cond (Nat.beq pc 242) (some (.invokevirtual 202, 3)) none) (cond (Nat.ble pc 245) (cond (Nat.beq pc 245) (some (.ifCond .eq 7, 3)) none) (cond (Nat.beq pc 248) (some (.iconst 1, 1)) none))) (cond (Nat.ble pc 249) (cond (Nat.beq pc 249) (some (.goto 4, 3)) none) (cond (Nat.ble pc 252) (cond (Nat.beq pc 252) (some (.iconst 0, 1)) none) (cond (Nat.beq pc 253) (some (.ireturn, 1)) none)))))) (cond (Nat.ble pc 270) (cond (Nat.ble pc 260) (cond (Nat.ble pc 257) (cond (Nat.ble pc 254) (cond (Nat.beq pc 254) (some (.goto 5, 3)) none) (cond (Nat.beq pc 257) (some (.iconst 1, 1)) none)) (cond (Nat.ble pc 258) (cond (Nat.beq pc 258) (some (.ireturn, 1)) none) (cond (Nat.ble pc 259) (cond (Nat.beq pc 259) (some (.aload_n 0, 1)) none) (cond (Nat.beq pc 260) (some (.getfield 48, 3)) none)))) (cond (Nat.ble pc 265) (cond (Nat.ble pc 263) (cond (Nat.beq pc 263) (some (.iload_n 1, 1)) none) (cond (Nat.ble pc 264) (cond (Nat.beq pc 264) (some (.iaload, 1)) none) (cond (Nat.beq pc 265) (some (.iconst 1, 1)) none))) (cond (Nat.ble pc 266) (cond (Nat.beq pc 266) (some (.if_icmp .ne 14, 3)) none) (cond (Nat.ble pc 269) (cond (Nat.beq pc 269) (some (.aload_n 0, 1)) none) (cond (Nat.beq pc 270) (some (.aload_n 0, 1)) none))))) (cond (Nat.ble pc 280) (cond (Nat.ble pc 275) (cond (Nat.ble pc 271) (cond (Nat.beq pc 271) (some (.getfield 42, 3)) none) (cond (Nat.ble pc 274) (cond (Nat.beq pc 274) (some (.iload_n 1, 1)) none) (cond (Nat.beq pc 275) (some (.iaload, 1)) none))) (cond (Nat.ble pc 276) (cond (Nat.beq pc 276) (some (.invokevirtual 202, 3)) none) (cond (Nat.ble pc 279) (cond (Nat.beq pc 279) (some (.ireturn, 1)) none) (cond (Nat.beq pc 280) (some (.aload_n 0, 1)) none)))) (cond (Nat.ble pc 285) (cond (Nat.ble pc 281) (cond (Nat.beq pc 281) (some (.aload_n 0, 1)) none) (cond (Nat.ble pc 282) (cond (Nat.beq pc 282) (some (.getfield 13, 3)) none) (cond (Nat.beq pc 285) (some (.aload_n 0, 1)) none))) (cond (Nat.ble pc 286) (cond (Nat.beq pc 286) (some (.getfield 36, 3)) none) (cond (Nat.ble pc 289) (cond (Nat.beq pc 289) (some (.iload_n 1, 1)) none) (cond (Nat.beq pc 290) (some (.iaload, 1)) none))))))) (cond (Nat.ble pc 327) (cond (Nat.ble pc 307) (cond (Nat.ble pc 297) (cond (Nat.ble pc 292) (cond (Nat.ble pc 291) (cond (Nat.beq pc 291) (some (.iaload, 1)) none) (cond (Nat.beq pc 292) (some (.invokevirtual 156, 3)) none)) (cond (Nat.ble pc 295) (cond (Nat.beq pc 295) (some (.lstore_n 2, 1)) none) (cond (Nat.ble pc 296) (cond (Nat.beq pc 296) (some (.aload_n 0, 1)) none) (cond (Nat.beq pc 297) (some (.invokevirtual 167, 3)) none)))) (cond (Nat.ble pc 304) (cond (Nat.ble pc 300) (cond (Nat.beq pc 300) (some (.ifCond .eq 5, 3)) none) (cond (Nat.ble pc 303) (cond (Nat.beq pc 303) (some (.iconst 0, 1)) none) (cond (Nat.beq pc 304) (some (.ireturn, 1)) none))) (cond (Nat.ble pc 305) (cond (Nat.beq pc 305) (some (.lload_n 2, 1)) none) (cond (Nat.ble pc 306) (cond (Nat.beq pc 306) (some (.lconst 0, 1)) none) (cond (Nat.beq pc 307) (some (.lcmp, 1)) none))))) (cond (Nat.ble pc 317) (cond (Nat.ble pc 312) (cond (Nat.ble pc 308) (cond (Nat.beq pc 308) (some (.ifCond .eq 14, 3)) none) (cond (Nat.ble pc 311) (cond (Nat.beq pc 311) (some (.aload_n 0, 1)) none) (cond (Nat.beq pc 312) (some (.aload_n 0, 1)) none))) (cond (Nat.ble pc 313) (cond (Nat.beq pc 313) (some (.getfield 39, 3)) none) (cond (Nat.ble pc 316) (cond (Nat.beq pc 316) (some (.iload_n 1, 1)) none) (cond (Nat.beq pc 317) (some (.iaload, 1)) none)))) (cond (Nat.ble pc 322) (cond (Nat.ble pc 318) (cond (Nat.beq pc 318) (some (.invokevirtual 202, 3)) none) (cond (Nat.ble pc 321) (cond (Nat.beq pc 321) (some (.ireturn, 1)) none) (cond (Nat.beq pc 322) (some (.aload_n 0, 1)) none))) (cond (Nat.ble pc 323) (cond (Nat.beq pc 323) (some (.aload_n 0, 1)) none) (cond (Nat.ble pc 324) (cond (Nat.beq pc 324) (some (.getfield 36, 3)) none) (cond (Nat.beq pc 327) (some (.iload_n 1, 1)) none)))))) (cond (Nat.ble pc 347) (cond (Nat.ble pc 335) (cond (Nat.ble pc 330) (cond (Nat.ble pc 328) (cond (Nat.beq pc 328) (some (.iaload, 1)) none) (cond (Nat.ble pc 329) (cond (Nat.beq pc 329) (some (.iconst 3, 1)) none) (cond (Nat.beq pc 330) (some (.invokevirtual 160, 3)) none))) (cond (Nat.ble pc 333) (cond (Nat.beq pc 333) (some (.aload_n 0, 1)) none) (cond (Nat.ble pc 334) (cond (Nat.beq pc 334) (some (.aload_n 0, 1)) none) (cond (Nat.beq pc 335) (some (.getfield 39, 3)) none)))) (cond (Nat.ble pc 340) (cond (Nat.ble pc 338) (cond (Nat.beq pc 338) (some (.iload_n 1, 1)) none) (cond (Nat.ble pc 339) (cond (Nat.beq pc 339) (some (.iaload, 1)) none) (cond (Nat.beq pc 340) (some (.invokevirtual 199, 3)) none))) (cond (Nat.ble pc 343) (cond (Nat.beq pc 343) (some (.aload_n 0, 1)) none) (cond (Nat.ble pc 344) (cond (Nat.beq pc 344) (some (.getfield 48, 3)) none) (cond (Nat.beq pc 347) (some (.iload_n 1, 1)) none))))) (cond (Nat.ble pc 355) (cond (Nat.ble pc 350) (cond (Nat.ble pc 348) (cond (Nat.beq pc 348) (some (.iconst 1, 1)) none) (cond (Nat.ble pc 349) (cond (Nat.beq pc 349) (some (.iastore, 1)) none) (cond (Nat.beq pc 350) (some (.aload_n 0, 1)) none))) (cond (Nat.ble pc 351) (cond (Nat.beq pc 351) (some (.getfield 45, 3)) none) (cond (Nat.ble pc 354) (cond (Nat.beq pc 354) (some (.aload_n 0, 1)) none) (cond (Nat.beq pc 355) (some (.getfield 42, 3)) none)))) (cond (Nat.ble pc 360) (cond (Nat.ble pc 358) (cond (Nat.beq pc 358) (some (.iload_n 1, 1)) none) (cond (Nat.ble pc 359) (cond (Nat.beq pc 359) (some (.iaload, 1)) none) (cond (Nat.beq pc 360) (some (.iconst 0, 1)) none))) (cond (Nat.ble pc 361) (cond (Nat.beq pc 361) (some (.bastore, 1)) none) (cond (Nat.ble pc 362) (cond (Nat.beq pc 362) (some (.iconst 1, 1)) none) (cond (Nat.beq pc 363) (some (.ireturn, 1)) none)))))))))
set_option maxRecDepth 100000 in
theorem zd84_0 : (List.range' 0 125).all (fun pc => match zI84 pc with | some q => decide (decode (zCode 84) pc = .ok q) | none => true) = true := by decide +kernel
set_option maxRecDepth 100000 in
theorem zd84_1 : (List.range' 125 70).all (fun pc => match zI84 pc with | some q => decide (decode (zCode 84) pc = .ok q) | none => true) = true := by decide +kernel
set_option maxRecDepth 100000 in
theorem zd84_2 : (List.range' 195 68).all (fun pc => match zI84 pc with | some q => decide (decode (zCode 84) pc = .ok q) | none => true) = true := by decide +kernel
set_option maxRecDepth 100000 in
theorem zd84_3 : (List.range' 263 64).all (fun pc => match zI84 pc with | some q => decide (decode (zCode 84) pc = .ok q) | none => true) = true := by decide +kernel
set_option maxRecDepth 100000 in
theorem zd84_4 : (List.range' 327 37).all (fun pc => match zI84 pc with | some q => decide (decode (zCode 84) pc = .ok q) | none => true) = true := by decide +kernel
theorem zJ84 {pc : Nat} {q : Jvm.ClassFile.Instr × Nat} (h : zI84 pc = some q) : decode (zCode 84) pc = .ok q := by
  have hb := (z_gd (n := 364) (pc := pc) h).1
  by_cases c0 : pc < 125
  · exact z_ck zd84_0 (by omega) (by omega) h
  by_cases c1 : pc < 195
  · exact z_ck zd84_1 (by omega) (by omega) h
  by_cases c2 : pc < 263
  · exact z_ck zd84_2 (by omega) (by omega) h
  by_cases c3 : pc < 327
  · exact z_ck zd84_3 (by omega) (by omega) h
  exact z_ck zd84_4 (by omega) (by omega) h
end
section
/-! decoded code, by program (wip/whole/gen2.py) -/
def zI85 (pc : Nat) : Option (Jvm.ClassFile.Instr × Nat) := cond (Nat.ble 230 pc) none (cond (Nat.ble pc 110) (cond (Nat.ble pc 68) (cond (Nat.ble pc 48) (cond (Nat.ble pc 9) (cond (Nat.ble pc 4) (cond (Nat.ble pc 0) (cond (Nat.beq pc 0) (some (.aload_n 0, 1)) none) (cond (Nat.ble pc 1) (cond (Nat.beq pc 1) (some (.getfield 78, 3)) none) (cond (Nat.beq pc 4) (some (.ifCond .lt 5, 3)) none))) (cond (Nat.ble pc 7) (cond (Nat.beq pc 7) (some (.lconst 0, 1)) none) (cond (Nat.ble pc 8) (cond (Nat.beq pc 8) (some (.lreturn, 1)) none) (cond (Nat.beq pc 9) (some (.aload_n 0, 1)) none)))) (cond (Nat.ble pc 14) (cond (Nat.ble pc 10) (cond (Nat.beq pc 10) (some (.getfield 9, 3)) none) (cond (Nat.ble pc 13) (cond (Nat.beq pc 13) (some (.iload_n 1, 1)) none) (cond (Nat.beq pc 14) (some (.iaload, 1)) none))) (cond (Nat.ble pc 44) (cond (Nat.ble pc 15) (cond (Nat.beq pc 15) (some (.tableswitch 67 100 103 #[29, 36, 49, 62], 29)) none) (cond (Nat.beq pc 44) (some (.aload_n 0, 1)) none)) (cond (Nat.ble pc 45) (cond (Nat.beq pc 45) (some (.getfield 22, 3)) none) (cond (Nat.beq pc 48) (some (.iload_n 1, 1)) none))))) (cond (Nat.ble pc 59) (cond (Nat.ble pc 51) (cond (Nat.ble pc 49) (cond (Nat.beq pc 49) (some (.laload, 1)) none) (cond (Nat.ble pc 50) (cond (Nat.beq pc 50) (some (.lreturn, 1)) none) (cond (Nat.beq pc 51) (some (.aload_n 0, 1)) none))) (cond (Nat.ble pc 55) (cond (Nat.ble pc 52) (cond (Nat.beq pc 52) (some (.getfield 63, 3)) none) (cond (Nat.beq pc 55) (some (.aload_n 0, 1)) none)) (cond (Nat.ble pc 56) (cond (Nat.beq pc 56) (some (.getfield 22, 3)) none) (cond (Nat.beq pc 59) (some (.iload_n 1, 1)) none)))) (cond (Nat.ble pc 62) (cond (Nat.ble pc 60) (cond (Nat.beq pc 60) (some (.laload, 1)) none) (cond (Nat.ble pc 61) (cond (Nat.beq pc 61) (some (.l2i, 1)) none) (cond (Nat.beq pc 62) (some (.laload, 1)) none))) (cond (Nat.ble pc 64) (cond (Nat.ble pc 63) (cond (Nat.beq pc 63) (some (.lreturn, 1)) none) (cond (Nat.beq pc 64) (some (.aload_n 0, 1)) none)) (cond (Nat.ble pc 65) (cond (Nat.beq pc 65) (some (.getfield 66, 3)) none) (cond (Nat.beq pc 68) (some (.aload_n 0, 1)) none)))))) (cond (Nat.ble pc 87) (cond (Nat.ble pc 76) (cond (Nat.ble pc 73) (cond (Nat.ble pc 69) (cond (Nat.beq pc 69) (some (.getfield 22, 3)) none) (cond (Nat.ble pc 72) (cond (Nat.beq pc 72) (some (.iload_n 1, 1)) none) (cond (Nat.beq pc 73) (some (.laload, 1)) none))) (cond (Nat.ble pc 74) (cond (Nat.beq pc 74) (some (.l2i, 1)) none) (cond (Nat.ble pc 75) (cond (Nat.beq pc 75) (some (.laload, 1)) none) (cond (Nat.beq pc 76) (some (.lreturn, 1)) none)))) (cond (Nat.ble pc 81) (cond (Nat.ble pc 77) (cond (Nat.beq pc 77) (some (.aload_n 0, 1)) none) (cond (Nat.ble pc 78) (cond (Nat.beq pc 78) (some (.getfield 143, 3)) none) (cond (Nat.beq pc 81) (some (.lreturn, 1)) none))) (cond (Nat.ble pc 83) (cond (Nat.ble pc 82) (cond (Nat.beq pc 82) (some (.aload_n 0, 1)) none) (cond (Nat.beq pc 83) (some (.aload_n 0, 1)) none)) (cond (Nat.ble pc 84) (cond (Nat.beq pc 84) (some (.getfield 13, 3)) none) (cond (Nat.beq pc 87) (some (.iload_n 1, 1)) none))))) (cond (Nat.ble pc 98) (cond (Nat.ble pc 92) (cond (Nat.ble pc 88) (cond (Nat.beq pc 88) (some (.iaload, 1)) none) (cond (Nat.ble pc 89) (cond (Nat.beq pc 89) (some (.invokevirtual 156, 3)) none) (cond (Nat.beq pc 92) (some (.lstore_n 2, 1)) none))) (cond (Nat.ble pc 94) (cond (Nat.ble pc 93) (cond (Nat.beq pc 93) (some (.aload_n 0, 1)) none) (cond (Nat.beq pc 94) (some (.aload_n 0, 1)) none)) (cond (Nat.ble pc 95) (cond (Nat.beq pc 95) (some (.getfield 16, 3)) none) (cond (Nat.beq pc 98) (some (.iload_n 1, 1)) none)))) (cond (Nat.ble pc 103) (cond (Nat.ble pc 99) (cond (Nat.beq pc 99) (some (.iaload, 1)) none) (cond (Nat.ble pc 100) (cond (Nat.beq pc 100) (some (.invokevirtual 156, 3)) none) (cond (Nat.beq pc 103) (some (.lstore 4, 2)) none))) (cond (Nat.ble pc 106) (cond (Nat.ble pc 105) (cond (Nat.beq pc 105) (some (.aload_n 0, 1)) none) (cond (Nat.beq pc 106) (some (.getfield 9, 3)) none)) (cond (Nat.ble pc 109) (cond (Nat.beq pc 109) (some (.iload_n 1, 1)) none) (cond (Nat.beq pc 110) (some (.iaload, 1)) none))))))) (cond (Nat.ble pc 189) (cond (Nat.ble pc 134) (cond (Nat.ble pc 119) (cond (Nat.ble pc 115) (cond (Nat.ble pc 111) (cond (Nat.beq pc 111) (some (.iconst 3, 1)) none) (cond (Nat.ble pc 112) (cond (Nat.beq pc 112) (some (.if_icmp .ne 22, 3)) none) (cond (Nat.beq pc 115) (some (.lload 4, 2)) none))) (cond (Nat.ble pc 117) (cond (Nat.beq pc 117) (some (.lconst 0, 1)) none) (cond (Nat.ble pc 118) (cond (Nat.beq pc 118) (some (.lcmp, 1)) none) (cond (Nat.beq pc 119) (some (.ifCond .ne 15, 3)) none)))) (cond (Nat.ble pc 126) (cond (Nat.ble pc 122) (cond (Nat.beq pc 122) (some (.aload_n 0, 1)) none) (cond (Nat.ble pc 123) (cond (Nat.beq pc 123) (some (.getfield 78, 3)) none) (cond (Nat.beq pc 126) (some (.ifCond .ge 8, 3)) none))) (cond (Nat.ble pc 130) (cond (Nat.ble pc 129) (cond (Nat.beq pc 129) (some (.aload_n 0, 1)) none) (cond (Nat.beq pc 130) (some (.iload_n 1, 1)) none)) (cond (Nat.ble pc 131) (cond (Nat.beq pc 131) (some (.putfield 78, 3)) none) (cond (Nat.beq pc 134) (some (.aload_n 0, 1)) none))))) (cond (Nat.ble pc 147) (cond (Nat.ble pc 141) (cond (Nat.ble pc 135) (cond (Nat.beq pc 135) (some (.getfield 78, 3)) none) (cond (Nat.ble pc 138) (cond (Nat.beq pc 138) (some (.ifCond .lt 5, 3)) none) (cond (Nat.beq pc 141) (some (.lconst 0, 1)) none))) (cond (Nat.ble pc 143) (cond (Nat.ble pc 142) (cond (Nat.beq pc 142) (some (.lreturn, 1)) none) (cond (Nat.beq pc 143) (some (.aload_n 0, 1)) none)) (cond (Nat.ble pc 144) (cond (Nat.beq pc 144) (some (.getfield 9, 3)) none) (cond (Nat.beq pc 147) (some (.iload_n 1, 1)) none)))) (cond (Nat.ble pc 184) (cond (Nat.ble pc 148) (cond (Nat.beq pc 148) (some (.iaload, 1)) none) (cond (Nat.ble pc 149) (cond (Nat.beq pc 149) (some (.tableswitch 68 0 4 #[35, 40, 45, 50, 55], 35)) none) (cond (Nat.beq pc 184) (some (.lload_n 2, 1)) none))) (cond (Nat.ble pc 187) (cond (Nat.ble pc 185) (cond (Nat.beq pc 185) (some (.lload 4, 2)) none) (cond (Nat.beq pc 187) (some (.ladd, 1)) none)) (cond (Nat.ble pc 188) (cond (Nat.beq pc 188) (some (.lreturn, 1)) none) (cond (Nat.beq pc 189) (some (.lload_n 2, 1)) none)))))) (cond (Nat.ble pc 205) (cond (Nat.ble pc 197) (cond (Nat.ble pc 193) (cond (Nat.ble pc 190) (cond (Nat.beq pc 190) (some (.lload 4, 2)) none) (cond (Nat.ble pc 192) (cond (Nat.beq pc 192) (some (.lsub, 1)) none) (cond (Nat.beq pc 193) (some (.lreturn, 1)) none))) (cond (Nat.ble pc 194) (cond (Nat.beq pc 194) (some (.lload_n 2, 1)) none) (cond (Nat.ble pc 195) (cond (Nat.beq pc 195) (some (.lload 4, 2)) none) (cond (Nat.beq pc 197) (some (.lmul, 1)) none)))) (cond (Nat.ble pc 200) (cond (Nat.ble pc 198) (cond (Nat.beq pc 198) (some (.lreturn, 1)) none) (cond (Nat.ble pc 199) (cond (Nat.beq pc 199) (some (.lload_n 2, 1)) none) (cond (Nat.beq pc 200) (some (.lload 4, 2)) none))) (cond (Nat.ble pc 203) (cond (Nat.ble pc 202) (cond (Nat.beq pc 202) (some (.ldiv, 1)) none) (cond (Nat.beq pc 203) (some (.lreturn, 1)) none)) (cond (Nat.ble pc 204) (cond (Nat.beq pc 204) (some (.lload_n 2, 1)) none) (cond (Nat.beq pc 205) (some (.lload 4, 2)) none))))) (cond (Nat.ble pc 217) (cond (Nat.ble pc 211) (cond (Nat.ble pc 207) (cond (Nat.beq pc 207) (some (.lcmp, 1)) none) (cond (Nat.ble pc 208) (cond (Nat.beq pc 208) (some (.ifCond .ge 7, 3)) none) (cond (Nat.beq pc 211) (some (.lconst 1, 1)) none))) (cond (Nat.ble pc 215) (cond (Nat.ble pc 212) (cond (Nat.beq pc 212) (some (.goto 4, 3)) none) (cond (Nat.beq pc 215) (some (.lconst 0, 1)) none)) (cond (Nat.ble pc 216) (cond (Nat.beq pc 216) (some (.lreturn, 1)) none) (cond (Nat.beq pc 217) (some (.lload_n 2, 1)) none)))) (cond (Nat.ble pc 221) (cond (Nat.ble pc 218) (cond (Nat.beq pc 218) (some (.lload 4, 2)) none) (cond (Nat.ble pc 220) (cond (Nat.beq pc 220) (some (.lcmp, 1)) none) (cond (Nat.beq pc 221) (some (.ifCond .ne 7, 3)) none))) (cond (Nat.ble pc 225) (cond (Nat.ble pc 224) (cond (Nat.beq pc 224) (some (.lconst 1, 1)) none) (cond (Nat.beq pc 225) (some (.goto 4, 3)) none)) (cond (Nat.ble pc 228) (cond (Nat.beq pc 228) (some (.lconst 0, 1)) none) (cond (Nat.beq pc 229) (some (.lreturn, 1)) none))))))))
set_option maxRecDepth 100000 in
theorem zd85_0 : (List.range' 0 88).all (fun pc => match zI85 pc with | some q => decide (decode (zCode 85) pc = .ok q) | none => true) = true := by decide +kernel
set_option maxRecDepth 100000 in
theorem zd85_1 : (List.range' 88 101).all (fun pc => match zI85 pc with | some q => decide (decode (zCode 85) pc = .ok q) | none => true) = true := by decide +kernel
set_option maxRecDepth 100000 in
theorem zd85_2 : (List.range' 189 41).all (fun pc => match zI85 pc with | some q => decide (decode (zCode 85) pc = .ok q) | none => true) = true := by decide +kernel
theorem zJ85 {pc : Nat} {q : Jvm.ClassFile.Instr × Nat} (h : zI85 pc = some q) : decode (zCode 85) pc = .ok q := by
  have hb := (z_gd (n := 230) (pc := pc) h).1
  by_cases c0 : pc < 88
  · exact z_ck zd85_0 (by omega) (by omega) h
  by_cases c1 : pc < 189
  · exact z_ck zd85_1 (by omega) (by omega) h
  exact z_ck zd85_2 (by omega) (by omega) h
def zI86 (pc : Nat) : Option (Jvm.ClassFile.Instr × Nat) := cond (Nat.ble 25 pc) none (cond (Nat.ble pc 10) (cond (Nat.ble pc 4) (cond (Nat.ble pc 0) (cond (Nat.beq pc 0) (some (.aload_n 0, 1)) none) (cond (Nat.ble pc 1) (cond (Nat.beq pc 1) (some (.getfield 78, 3)) none) (cond (Nat.beq pc 4) (some (.ifCond .ge 5, 3)) none))) (cond (Nat.ble pc 8) (cond (Nat.ble pc 7) (cond (Nat.beq pc 7) (some (.iconst 0, 1)) none) (cond (Nat.beq pc 8) (some (.ireturn, 1)) none)) (cond (Nat.ble pc 9) (cond (Nat.beq pc 9) (some (.aload_n 0, 1)) none) (cond (Nat.beq pc 10) (some (.aload_n 0, 1)) none)))) (cond (Nat.ble pc 18) (cond (Nat.ble pc 14) (cond (Nat.ble pc 11) (cond (Nat.beq pc 11) (some (.getfield 78, 3)) none) (cond (Nat.beq pc 14) (some (.iconst 1, 1)) none)) (cond (Nat.ble pc 15) (cond (Nat.beq pc 15) (some (.invokevirtual 160, 3)) none) (cond (Nat.beq pc 18) (some (.aload_n 0, 1)) none))) (cond (Nat.ble pc 20) (cond (Nat.ble pc 19) (cond (Nat.beq pc 19) (some (.iconst (-1), 1)) none) (cond (Nat.beq pc 20) (some (.putfield 78, 3)) none)) (cond (Nat.ble pc 23) (cond (Nat.beq pc 23) (some (.iconst 1, 1)) none) (cond (Nat.beq pc 24) (some (.ireturn, 1)) none)))))
set_option maxRecDepth 100000 in
theorem zd86_0 : (List.range' 0 25).all (fun pc => match zI86 pc with | some q => decide (decode (zCode 86) pc = .ok q) | none => true) = true := by decide +kernel
theorem zJ86 {pc : Nat} {q : Jvm.ClassFile.Instr × Nat} (h : zI86 pc = some q) : decode (zCode 86) pc = .ok q := by
  have hb := (z_gd (n := 25) (pc := pc) h).1
  exact z_ck zd86_0 (by omega) (by omega) h
def zI87 (pc : Nat) : Option (Jvm.ClassFile.Instr × Nat) := cond (Nat.ble 55 pc) none (cond (Nat.ble pc 28) (cond (Nat.ble pc 14) (cond (Nat.ble pc 4) (cond (Nat.ble pc 0) (cond (Nat.beq pc 0) (some (.aload_n 0, 1)) none) (cond (Nat.ble pc 1) (cond (Nat.beq pc 1) (some (.getfield 147, 3)) none) (cond (Nat.beq pc 4) (some (.sipush 200, 3)) none))) (cond (Nat.ble pc 10) (cond (Nat.ble pc 7) (cond (Nat.beq pc 7) (some (.if_icmp .ge 47, 3)) none) (cond (Nat.beq pc 10) (some (.aload_n 0, 1)) none)) (cond (Nat.ble pc 11) (cond (Nat.beq pc 11) (some (.getfield 82, 3)) none) (cond (Nat.beq pc 14) (some (.aload_n 0, 1)) none)))) (cond (Nat.ble pc 22) (cond (Nat.ble pc 18) (cond (Nat.ble pc 15) (cond (Nat.beq pc 15) (some (.getfield 147, 3)) none) (cond (Nat.beq pc 18) (some (.aload_n 0, 1)) none)) (cond (Nat.ble pc 19) (cond (Nat.beq pc 19) (some (.getfield 143, 3)) none) (cond (Nat.beq pc 22) (some (.l2i, 1)) none))) (cond (Nat.ble pc 24) (cond (Nat.ble pc 23) (cond (Nat.beq pc 23) (some (.iastore, 1)) none) (cond (Nat.beq pc 24) (some (.aload_n 0, 1)) none)) (cond (Nat.ble pc 25) (cond (Nat.beq pc 25) (some (.getfield 85, 3)) none) (cond (Nat.beq pc 28) (some (.aload_n 0, 1)) none))))) (cond (Nat.ble pc 42) (cond (Nat.ble pc 34) (cond (Nat.ble pc 32) (cond (Nat.ble pc 29) (cond (Nat.beq pc 29) (some (.getfield 147, 3)) none) (cond (Nat.beq pc 32) (some (.iload_n 1, 1)) none)) (cond (Nat.ble pc 33) (cond (Nat.beq pc 33) (some (.iastore, 1)) none) (cond (Nat.beq pc 34) (some (.aload_n 0, 1)) none))) (cond (Nat.ble pc 38) (cond (Nat.ble pc 35) (cond (Nat.beq pc 35) (some (.getfield 88, 3)) none) (cond (Nat.beq pc 38) (some (.aload_n 0, 1)) none)) (cond (Nat.ble pc 39) (cond (Nat.beq pc 39) (some (.getfield 147, 3)) none) (cond (Nat.beq pc 42) (some (.iload_n 2, 1)) none)))) (cond (Nat.ble pc 46) (cond (Nat.ble pc 44) (cond (Nat.ble pc 43) (cond (Nat.beq pc 43) (some (.iastore, 1)) none) (cond (Nat.beq pc 44) (some (.aload_n 0, 1)) none)) (cond (Nat.ble pc 45) (cond (Nat.beq pc 45) (some (.dup, 1)) none) (cond (Nat.beq pc 46) (some (.getfield 147, 3)) none))) (cond (Nat.ble pc 50) (cond (Nat.ble pc 49) (cond (Nat.beq pc 49) (some (.iconst 1, 1)) none) (cond (Nat.beq pc 50) (some (.iadd, 1)) none)) (cond (Nat.ble pc 51) (cond (Nat.beq pc 51) (some (.putfield 147, 3)) none) (cond (Nat.beq pc 54) (some (.return_, 1)) none))))))
set_option maxRecDepth 100000 in
theorem zd87_0 : (List.range' 0 55).all (fun pc => match zI87 pc with | some q => decide (decode (zCode 87) pc = .ok q) | none => true) = true := by decide +kernel
theorem zJ87 {pc : Nat} {q : Jvm.ClassFile.Instr × Nat} (h : zI87 pc = some q) : decode (zCode 87) pc = .ok q := by
  have hb := (z_gd (n := 55) (pc := pc) h).1
  exact z_ck zd87_0 (by omega) (by omega) h
def zI88 (pc : Nat) : Option (Jvm.ClassFile.Instr × Nat) := cond (Nat.ble 280 pc) none (cond (Nat.ble pc 173) (cond (Nat.ble pc 115) (cond (Nat.ble pc 85) (cond (Nat.ble pc 11) (cond (Nat.ble pc 5) (cond (Nat.ble pc 1) (cond (Nat.ble pc 0) (cond (Nat.beq pc 0) (some (.aload_n 0, 1)) none) (cond (Nat.beq pc 1) (some (.getfield 45, 3)) none)) (cond (Nat.ble pc 4) (cond (Nat.beq pc 4) (some (.iload_n 1, 1)) none) (cond (Nat.beq pc 5) (some (.baload, 1)) none))) (cond (Nat.ble pc 9) (cond (Nat.ble pc 6) (cond (Nat.beq pc 6) (some (.ifCond .ne 4, 3)) none) (cond (Nat.beq pc 9) (some (.return_, 1)) none)) (cond (Nat.ble pc 10) (cond (Nat.beq pc 10) (some (.aload_n 0, 1)) none) (cond (Nat.beq pc 11) (some (.getfield 9, 3)) none)))) (cond (Nat.ble pc 19) (cond (Nat.ble pc 15) (cond (Nat.ble pc 14) (cond (Nat.beq pc 14) (some (.aload_n 0, 1)) none) (cond (Nat.beq pc 15) (some (.getfield 36, 3)) none)) (cond (Nat.ble pc 18) (cond (Nat.beq pc 18) (some (.iload_n 1, 1)) none) (cond (Nat.beq pc 19) (some (.iaload, 1)) none))) (cond (Nat.ble pc 21) (cond (Nat.ble pc 20) (cond (Nat.beq pc 20) (some (.iaload, 1)) none) (cond (Nat.beq pc 21) (some (.tableswitch 251 10 21 #[63, 251, 251, 251, 251, 148, 94, 135, 63, 251, 251, 193], 63)) none)) (cond (Nat.ble pc 84) (cond (Nat.beq pc 84) (some (.aload_n 0, 1)) none) (cond (Nat.beq pc 85) (some (.aload_n 0, 1)) none))))) (cond (Nat.ble pc 99) (cond (Nat.ble pc 91) (cond (Nat.ble pc 89) (cond (Nat.ble pc 86) (cond (Nat.beq pc 86) (some (.getfield 48, 3)) none) (cond (Nat.beq pc 89) (some (.iload_n 1, 1)) none)) (cond (Nat.ble pc 90) (cond (Nat.beq pc 90) (some (.iaload, 1)) none) (cond (Nat.beq pc 91) (some (.ifCond .ne 12, 3)) none))) (cond (Nat.ble pc 95) (cond (Nat.ble pc 94) (cond (Nat.beq pc 94) (some (.aload_n 0, 1)) none) (cond (Nat.beq pc 95) (some (.getfield 39, 3)) none)) (cond (Nat.ble pc 98) (cond (Nat.beq pc 98) (some (.iload_n 1, 1)) none) (cond (Nat.beq pc 99) (some (.iaload, 1)) none)))) (cond (Nat.ble pc 107) (cond (Nat.ble pc 103) (cond (Nat.ble pc 100) (cond (Nat.beq pc 100) (some (.goto 9, 3)) none) (cond (Nat.beq pc 103) (some (.aload_n 0, 1)) none)) (cond (Nat.ble pc 104) (cond (Nat.beq pc 104) (some (.getfield 42, 3)) none) (cond (Nat.beq pc 107) (some (.iload_n 1, 1)) none))) (cond (Nat.ble pc 109) (cond (Nat.ble pc 108) (cond (Nat.beq pc 108) (some (.iaload, 1)) none) (cond (Nat.beq pc 109) (some (.invokevirtual 199, 3)) none)) (cond (Nat.ble pc 112) (cond (Nat.beq pc 112) (some (.goto 160, 3)) none) (cond (Nat.beq pc 115) (some (.aload_n 0, 1)) none)))))) (cond (Nat.ble pc 141) (cond (Nat.ble pc 127) (cond (Nat.ble pc 121) (cond (Nat.ble pc 119) (cond (Nat.ble pc 116) (cond (Nat.beq pc 116) (some (.getfield 48, 3)) none) (cond (Nat.beq pc 119) (some (.iload_n 1, 1)) none)) (cond (Nat.ble pc 120) (cond (Nat.beq pc 120) (some (.iaload, 1)) none) (cond (Nat.beq pc 121) (some (.iconst 2, 1)) none))) (cond (Nat.ble pc 125) (cond (Nat.ble pc 122) (cond (Nat.beq pc 122) (some (.if_icmp .ge 150, 3)) none) (cond (Nat.beq pc 125) (some (.aload_n 0, 1)) none)) (cond (Nat.ble pc 126) (cond (Nat.beq pc 126) (some (.aload_n 0, 1)) none) (cond (Nat.beq pc 127) (some (.getfield 48, 3)) none)))) (cond (Nat.ble pc 135) (cond (Nat.ble pc 131) (cond (Nat.ble pc 130) (cond (Nat.beq pc 130) (some (.iload_n 1, 1)) none) (cond (Nat.beq pc 131) (some (.iaload, 1)) none)) (cond (Nat.ble pc 132) (cond (Nat.beq pc 132) (some (.ifCond .ne 12, 3)) none) (cond (Nat.beq pc 135) (some (.aload_n 0, 1)) none))) (cond (Nat.ble pc 139) (cond (Nat.ble pc 136) (cond (Nat.beq pc 136) (some (.getfield 39, 3)) none) (cond (Nat.beq pc 139) (some (.iload_n 1, 1)) none)) (cond (Nat.ble pc 140) (cond (Nat.beq pc 140) (some (.iaload, 1)) none) (cond (Nat.beq pc 141) (some (.goto 9, 3)) none))))) (cond (Nat.ble pc 157) (cond (Nat.ble pc 149) (cond (Nat.ble pc 145) (cond (Nat.ble pc 144) (cond (Nat.beq pc 144) (some (.aload_n 0, 1)) none) (cond (Nat.beq pc 145) (some (.getfield 42, 3)) none)) (cond (Nat.ble pc 148) (cond (Nat.beq pc 148) (some (.iload_n 1, 1)) none) (cond (Nat.beq pc 149) (some (.iaload, 1)) none))) (cond (Nat.ble pc 153) (cond (Nat.ble pc 150) (cond (Nat.beq pc 150) (some (.invokevirtual 199, 3)) none) (cond (Nat.beq pc 153) (some (.goto 119, 3)) none)) (cond (Nat.ble pc 156) (cond (Nat.beq pc 156) (some (.aload_n 0, 1)) none) (cond (Nat.beq pc 157) (some (.aload_n 0, 1)) none)))) (cond (Nat.ble pc 163) (cond (Nat.ble pc 161) (cond (Nat.ble pc 158) (cond (Nat.beq pc 158) (some (.getfield 39, 3)) none) (cond (Nat.beq pc 161) (some (.iload_n 1, 1)) none)) (cond (Nat.ble pc 162) (cond (Nat.beq pc 162) (some (.iaload, 1)) none) (cond (Nat.beq pc 163) (some (.invokevirtual 199, 3)) none))) (cond (Nat.ble pc 169) (cond (Nat.ble pc 166) (cond (Nat.beq pc 166) (some (.goto 106, 3)) none) (cond (Nat.beq pc 169) (some (.aload_n 0, 1)) none)) (cond (Nat.ble pc 170) (cond (Nat.beq pc 170) (some (.getfield 48, 3)) none) (cond (Nat.beq pc 173) (some (.iload_n 1, 1)) none))))))) (cond (Nat.ble pc 225) (cond (Nat.ble pc 197) (cond (Nat.ble pc 185) (cond (Nat.ble pc 177) (cond (Nat.ble pc 175) (cond (Nat.ble pc 174) (cond (Nat.beq pc 174) (some (.iaload, 1)) none) (cond (Nat.beq pc 175) (some (.iconst 1, 1)) none)) (cond (Nat.ble pc 176) (cond (Nat.beq pc 176) (some (.iand, 1)) none) (cond (Nat.beq pc 177) (some (.ifCond .ne 13, 3)) none))) (cond (Nat.ble pc 181) (cond (Nat.ble pc 180) (cond (Nat.beq pc 180) (some (.aload_n 0, 1)) none) (cond (Nat.beq pc 181) (some (.aload_n 0, 1)) none)) (cond (Nat.ble pc 182) (cond (Nat.beq pc 182) (some (.getfield 39, 3)) none) (cond (Nat.beq pc 185) (some (.iload_n 1, 1)) none)))) (cond (Nat.ble pc 191) (cond (Nat.ble pc 187) (cond (Nat.ble pc 186) (cond (Nat.beq pc 186) (some (.iaload, 1)) none) (cond (Nat.beq pc 187) (some (.invokevirtual 199, 3)) none)) (cond (Nat.ble pc 190) (cond (Nat.beq pc 190) (some (.aload_n 0, 1)) none) (cond (Nat.beq pc 191) (some (.getfield 48, 3)) none))) (cond (Nat.ble pc 195) (cond (Nat.ble pc 194) (cond (Nat.beq pc 194) (some (.iload_n 1, 1)) none) (cond (Nat.beq pc 195) (some (.iaload, 1)) none)) (cond (Nat.ble pc 196) (cond (Nat.beq pc 196) (some (.iconst 2, 1)) none) (cond (Nat.beq pc 197) (some (.iand, 1)) none))))) (cond (Nat.ble pc 211) (cond (Nat.ble pc 203) (cond (Nat.ble pc 201) (cond (Nat.ble pc 198) (cond (Nat.beq pc 198) (some (.ifCond .ne 74, 3)) none) (cond (Nat.beq pc 201) (some (.aload_n 0, 1)) none)) (cond (Nat.ble pc 202) (cond (Nat.beq pc 202) (some (.aload_n 0, 1)) none) (cond (Nat.beq pc 203) (some (.getfield 42, 3)) none))) (cond (Nat.ble pc 207) (cond (Nat.ble pc 206) (cond (Nat.beq pc 206) (some (.iload_n 1, 1)) none) (cond (Nat.beq pc 207) (some (.iaload, 1)) none)) (cond (Nat.ble pc 208) (cond (Nat.beq pc 208) (some (.invokevirtual 199, 3)) none) (cond (Nat.beq pc 211) (some (.goto 61, 3)) none)))) (cond (Nat.ble pc 219) (cond (Nat.ble pc 215) (cond (Nat.ble pc 214) (cond (Nat.beq pc 214) (some (.aload_n 0, 1)) none) (cond (Nat.beq pc 215) (some (.getfield 48, 3)) none)) (cond (Nat.ble pc 218) (cond (Nat.beq pc 218) (some (.iload_n 1, 1)) none) (cond (Nat.beq pc 219) (some (.iaload, 1)) none))) (cond (Nat.ble pc 223) (cond (Nat.ble pc 220) (cond (Nat.beq pc 220) (some (.ifCond .ne 13, 3)) none) (cond (Nat.beq pc 223) (some (.aload_n 0, 1)) none)) (cond (Nat.ble pc 224) (cond (Nat.beq pc 224) (some (.aload_n 0, 1)) none) (cond (Nat.beq pc 225) (some (.getfield 39, 3)) none)))))) (cond (Nat.ble pc 253) (cond (Nat.ble pc 239) (cond (Nat.ble pc 233) (cond (Nat.ble pc 229) (cond (Nat.ble pc 228) (cond (Nat.beq pc 228) (some (.iload_n 1, 1)) none) (cond (Nat.beq pc 229) (some (.iaload, 1)) none)) (cond (Nat.ble pc 230) (cond (Nat.beq pc 230) (some (.invokevirtual 199, 3)) none) (cond (Nat.beq pc 233) (some (.aload_n 0, 1)) none))) (cond (Nat.ble pc 237) (cond (Nat.ble pc 234) (cond (Nat.beq pc 234) (some (.getfield 153, 3)) none) (cond (Nat.beq pc 237) (some (.istore_n 2, 1)) none)) (cond (Nat.ble pc 238) (cond (Nat.beq pc 238) (some (.aload_n 0, 1)) none) (cond (Nat.beq pc 239) (some (.iconst 1, 1)) none)))) (cond (Nat.ble pc 245) (cond (Nat.ble pc 243) (cond (Nat.ble pc 240) (cond (Nat.beq pc 240) (some (.putfield 153, 3)) none) (cond (Nat.beq pc 243) (some (.aload_n 0, 1)) none)) (cond (Nat.ble pc 244) (cond (Nat.beq pc 244) (some (.aload_n 0, 1)) none) (cond (Nat.beq pc 245) (some (.getfield 42, 3)) none))) (cond (Nat.ble pc 249) (cond (Nat.ble pc 248) (cond (Nat.beq pc 248) (some (.iload_n 1, 1)) none) (cond (Nat.beq pc 249) (some (.iaload, 1)) none)) (cond (Nat.ble pc 250) (cond (Nat.beq pc 250) (some (.invokevirtual 183, 3)) none) (cond (Nat.beq pc 253) (some (.istore_n 3, 1)) none))))) (cond (Nat.ble pc 265) (cond (Nat.ble pc 259) (cond (Nat.ble pc 255) (cond (Nat.ble pc 254) (cond (Nat.beq pc 254) (some (.aload_n 0, 1)) none) (cond (Nat.beq pc 255) (some (.iload_n 2, 1)) none)) (cond (Nat.ble pc 256) (cond (Nat.beq pc 256) (some (.putfield 153, 3)) none) (cond (Nat.beq pc 259) (some (.aload_n 0, 1)) none))) (cond (Nat.ble pc 261) (cond (Nat.ble pc 260) (cond (Nat.beq pc 260) (some (.aload_n 0, 1)) none) (cond (Nat.beq pc 261) (some (.getfield 36, 3)) none)) (cond (Nat.ble pc 264) (cond (Nat.beq pc 264) (some (.iload_n 1, 1)) none) (cond (Nat.beq pc 265) (some (.iaload, 1)) none)))) (cond (Nat.ble pc 273) (cond (Nat.ble pc 269) (cond (Nat.ble pc 266) (cond (Nat.beq pc 266) (some (.invokevirtual 195, 3)) none) (cond (Nat.beq pc 269) (some (.goto 3, 3)) none)) (cond (Nat.ble pc 272) (cond (Nat.beq pc 272) (some (.aload_n 0, 1)) none) (cond (Nat.beq pc 273) (some (.getfield 45, 3)) none))) (cond (Nat.ble pc 277) (cond (Nat.ble pc 276) (cond (Nat.beq pc 276) (some (.iload_n 1, 1)) none) (cond (Nat.beq pc 277) (some (.iconst 0, 1)) none)) (cond (Nat.ble pc 278) (cond (Nat.beq pc 278) (some (.bastore, 1)) none) (cond (Nat.beq pc 279) (some (.return_, 1)) none))))))))
set_option maxRecDepth 100000 in
theorem zd88_0 : (List.range' 0 130).all (fun pc => match zI88 pc with | some q => decide (decode (zCode 88) pc = .ok q) | none => true) = true := by decide +kernel
set_option maxRecDepth 100000 in
theorem zd88_1 : (List.range' 130 68).all (fun pc => match zI88 pc with | some q => decide (decode (zCode 88) pc = .ok q) | none => true) = true := by decide +kernel
set_option maxRecDepth 100000 in
theorem zd88_2 : (List.range' 198 68).all (fun pc => match zI88 pc with | some q => decide (decode (zCode 88) pc = .ok q) | none => true) = true := by decide +kernel
set_option maxRecDepth 100000 in
theorem zd88_3 : (List.range' 266 14).all (fun pc => match zI88 pc with | some q => decide (decode (zCode 88) pc = .ok q) | none => true) = true := by decide +kernel
theorem zJ88 {pc : Nat} {q : Jvm.ClassFile.Instr × Nat} (h : zI88 pc = some q) : decode (zCode 88) pc = .ok q := by
  have hb := (z_gd (n := 280) (pc := pc) h).1
  by_cases c0 : pc < 130
  · exact z_ck zd88_0 (by omega) (by omega) h
  by_cases c1 : pc < 198
  · exact z_ck zd88_1 (by omega) (by omega) h
  by_cases c2 : pc < 266
  · exact z_ck zd88_2 (by omega) (by omega) h
  exact z_ck zd88_3 (by omega) (by omega) h
def zI89 (pc : Nat) : Option (Jvm.ClassFile.Instr × Nat) := cond (Nat.ble 245 pc) none (cond (Nat.ble pc 151) (cond (Nat.ble pc 106) (cond (Nat.ble pc 23) (cond (Nat.ble pc 10) (cond (Nat.ble pc 4) (cond (Nat.ble pc 0) (cond (Nat.beq pc 0) (some (.aload_n 0, 1)) none) (cond (Nat.ble pc 1) (cond (Nat.beq pc 1) (some (.getfield 45, 3)) none) (cond (Nat.beq pc 4) (some (.iload_n 1, 1)) none))) (cond (Nat.ble pc 6) (cond (Nat.ble pc 5) (cond (Nat.beq pc 5) (some (.baload, 1)) none) (cond (Nat.beq pc 6) (some (.ifCond .ne 13, 3)) none)) (cond (Nat.ble pc 9) (cond (Nat.beq pc 9) (some (.aload_n 0, 1)) none) (cond (Nat.beq pc 10) (some (.iload_n 1, 1)) none)))) (cond (Nat.ble pc 17) (cond (Nat.ble pc 11) (cond (Nat.beq pc 11) (some (.invokevirtual 171, 3)) none) (cond (Nat.ble pc 14) (cond (Nat.beq pc 14) (some (.ifCond .ne 5, 3)) none) (cond (Nat.beq pc 17) (some (.iconst 2, 1)) none))) (cond (Nat.ble pc 19) (cond (Nat.ble pc 18) (cond (Nat.beq pc 18) (some (.ireturn, 1)) none) (cond (Nat.beq pc 19) (some (.aload_n 0, 1)) none)) (cond (Nat.ble pc 20) (cond (Nat.beq pc 20) (some (.getfield 9, 3)) none) (cond (Nat.beq pc 23) (some (.aload_n 0, 1)) none))))) (cond (Nat.ble pc 93) (cond (Nat.ble pc 28) (cond (Nat.ble pc 24) (cond (Nat.beq pc 24) (some (.getfield 36, 3)) none) (cond (Nat.ble pc 27) (cond (Nat.beq pc 27) (some (.iload_n 1, 1)) none) (cond (Nat.beq pc 28) (some (.iaload, 1)) none))) (cond (Nat.ble pc 30) (cond (Nat.ble pc 29) (cond (Nat.beq pc 29) (some (.iaload, 1)) none) (cond (Nat.beq pc 30) (some (.tableswitch 213 10 21 #[62, 213, 213, 68, 95, 101, 107, 150, 156, 185, 191, 207], 62)) none)) (cond (Nat.ble pc 92) (cond (Nat.beq pc 92) (some (.aload_n 0, 1)) none) (cond (Nat.beq pc 93) (some (.iload_n 1, 1)) none)))) (cond (Nat.ble pc 98) (cond (Nat.ble pc 94) (cond (Nat.beq pc 94) (some (.invokevirtual 174, 3)) none) (cond (Nat.ble pc 97) (cond (Nat.beq pc 97) (some (.ireturn, 1)) none) (cond (Nat.beq pc 98) (some (.aload_n 0, 1)) none))) (cond (Nat.ble pc 102) (cond (Nat.ble pc 99) (cond (Nat.beq pc 99) (some (.getfield 143, 3)) none) (cond (Nat.beq pc 102) (some (.aload_n 0, 1)) none)) (cond (Nat.ble pc 103) (cond (Nat.beq pc 103) (some (.getfield 51, 3)) none) (cond (Nat.beq pc 106) (some (.iload_n 1, 1)) none)))))) (cond (Nat.ble pc 126) (cond (Nat.ble pc 115) (cond (Nat.ble pc 109) (cond (Nat.ble pc 107) (cond (Nat.beq pc 107) (some (.laload, 1)) none) (cond (Nat.ble pc 108) (cond (Nat.beq pc 108) (some (.lsub, 1)) none) (cond (Nat.beq pc 109) (some (.aload_n 0, 1)) none))) (cond (Nat.ble pc 113) (cond (Nat.ble pc 110) (cond (Nat.beq pc 110) (some (.getfield 54, 3)) none) (cond (Nat.beq pc 113) (some (.iload_n 1, 1)) none)) (cond (Nat.ble pc 114) (cond (Nat.beq pc 114) (some (.laload, 1)) none) (cond (Nat.beq pc 115) (some (.lcmp, 1)) none)))) (cond (Nat.ble pc 120) (cond (Nat.ble pc 116) (cond (Nat.beq pc 116) (some (.ifCond .lt 7, 3)) none) (cond (Nat.ble pc 119) (cond (Nat.beq pc 119) (some (.iconst 1, 1)) none) (cond (Nat.beq pc 120) (some (.goto 4, 3)) none))) (cond (Nat.ble pc 124) (cond (Nat.ble pc 123) (cond (Nat.beq pc 123) (some (.iconst 0, 1)) none) (cond (Nat.beq pc 124) (some (.ireturn, 1)) none)) (cond (Nat.ble pc 125) (cond (Nat.beq pc 125) (some (.aload_n 0, 1)) none) (cond (Nat.beq pc 126) (some (.iload_n 1, 1)) none))))) (cond (Nat.ble pc 137) (cond (Nat.ble pc 131) (cond (Nat.ble pc 127) (cond (Nat.beq pc 127) (some (.invokevirtual 177, 3)) none) (cond (Nat.ble pc 130) (cond (Nat.beq pc 130) (some (.ireturn, 1)) none) (cond (Nat.beq pc 131) (some (.aload_n 0, 1)) none))) (cond (Nat.ble pc 133) (cond (Nat.ble pc 132) (cond (Nat.beq pc 132) (some (.iload_n 1, 1)) none) (cond (Nat.beq pc 133) (some (.invokevirtual 180, 3)) none)) (cond (Nat.ble pc 136) (cond (Nat.beq pc 136) (some (.ireturn, 1)) none) (cond (Nat.beq pc 137) (some (.aload_n 0, 1)) none)))) (cond (Nat.ble pc 143) (cond (Nat.ble pc 141) (cond (Nat.ble pc 138) (cond (Nat.beq pc 138) (some (.getfield 48, 3)) none) (cond (Nat.beq pc 141) (some (.iload_n 1, 1)) none)) (cond (Nat.ble pc 142) (cond (Nat.beq pc 142) (some (.iaload, 1)) none) (cond (Nat.beq pc 143) (some (.iconst 2, 1)) none))) (cond (Nat.ble pc 147) (cond (Nat.ble pc 144) (cond (Nat.beq pc 144) (some (.if_icmp .ne 7, 3)) none) (cond (Nat.beq pc 147) (some (.iconst 1, 1)) none)) (cond (Nat.ble pc 148) (cond (Nat.beq pc 148) (some (.goto 31, 3)) none) (cond (Nat.beq pc 151) (some (.aload_n 0, 1)) none))))))) (cond (Nat.ble pc 197) (cond (Nat.ble pc 175) (cond (Nat.ble pc 162) (cond (Nat.ble pc 156) (cond (Nat.ble pc 152) (cond (Nat.beq pc 152) (some (.aload_n 0, 1)) none) (cond (Nat.ble pc 153) (cond (Nat.beq pc 153) (some (.getfield 48, 3)) none) (cond (Nat.beq pc 156) (some (.iload_n 1, 1)) none))) (cond (Nat.ble pc 158) (cond (Nat.ble pc 157) (cond (Nat.beq pc 157) (some (.iaload, 1)) none) (cond (Nat.beq pc 158) (some (.ifCond .ne 12, 3)) none)) (cond (Nat.ble pc 161) (cond (Nat.beq pc 161) (some (.aload_n 0, 1)) none) (cond (Nat.beq pc 162) (some (.getfield 39, 3)) none)))) (cond (Nat.ble pc 167) (cond (Nat.ble pc 165) (cond (Nat.beq pc 165) (some (.iload_n 1, 1)) none) (cond (Nat.ble pc 166) (cond (Nat.beq pc 166) (some (.iaload, 1)) none) (cond (Nat.beq pc 167) (some (.goto 9, 3)) none))) (cond (Nat.ble pc 171) (cond (Nat.ble pc 170) (cond (Nat.beq pc 170) (some (.aload_n 0, 1)) none) (cond (Nat.beq pc 171) (some (.getfield 42, 3)) none)) (cond (Nat.ble pc 174) (cond (Nat.beq pc 174) (some (.iload_n 1, 1)) none) (cond (Nat.beq pc 175) (some (.iaload, 1)) none))))) (cond (Nat.ble pc 186) (cond (Nat.ble pc 180) (cond (Nat.ble pc 176) (cond (Nat.beq pc 176) (some (.invokevirtual 183, 3)) none) (cond (Nat.ble pc 179) (cond (Nat.beq pc 179) (some (.ireturn, 1)) none) (cond (Nat.beq pc 180) (some (.aload_n 0, 1)) none))) (cond (Nat.ble pc 182) (cond (Nat.ble pc 181) (cond (Nat.beq pc 181) (some (.iload_n 1, 1)) none) (cond (Nat.beq pc 182) (some (.invokevirtual 186, 3)) none)) (cond (Nat.ble pc 185) (cond (Nat.beq pc 185) (some (.ireturn, 1)) none) (cond (Nat.beq pc 186) (some (.aload_n 0, 1)) none)))) (cond (Nat.ble pc 191) (cond (Nat.ble pc 187) (cond (Nat.beq pc 187) (some (.aload_n 0, 1)) none) (cond (Nat.ble pc 188) (cond (Nat.beq pc 188) (some (.getfield 48, 3)) none) (cond (Nat.beq pc 191) (some (.iload_n 1, 1)) none))) (cond (Nat.ble pc 193) (cond (Nat.ble pc 192) (cond (Nat.beq pc 192) (some (.iaload, 1)) none) (cond (Nat.beq pc 193) (some (.ifCond .ne 12, 3)) none)) (cond (Nat.ble pc 196) (cond (Nat.beq pc 196) (some (.aload_n 0, 1)) none) (cond (Nat.beq pc 197) (some (.getfield 39, 3)) none)))))) (cond (Nat.ble pc 221) (cond (Nat.ble pc 210) (cond (Nat.ble pc 202) (cond (Nat.ble pc 200) (cond (Nat.beq pc 200) (some (.iload_n 1, 1)) none) (cond (Nat.ble pc 201) (cond (Nat.beq pc 201) (some (.iaload, 1)) none) (cond (Nat.beq pc 202) (some (.goto 9, 3)) none))) (cond (Nat.ble pc 206) (cond (Nat.ble pc 205) (cond (Nat.beq pc 205) (some (.aload_n 0, 1)) none) (cond (Nat.beq pc 206) (some (.getfield 42, 3)) none)) (cond (Nat.ble pc 209) (cond (Nat.beq pc 209) (some (.iload_n 1, 1)) none) (cond (Nat.beq pc 210) (some (.iaload, 1)) none)))) (cond (Nat.ble pc 215) (cond (Nat.ble pc 211) (cond (Nat.beq pc 211) (some (.invokevirtual 183, 3)) none) (cond (Nat.ble pc 214) (cond (Nat.beq pc 214) (some (.ireturn, 1)) none) (cond (Nat.beq pc 215) (some (.aload_n 0, 1)) none))) (cond (Nat.ble pc 217) (cond (Nat.ble pc 216) (cond (Nat.beq pc 216) (some (.iload_n 1, 1)) none) (cond (Nat.beq pc 217) (some (.invokevirtual 189, 3)) none)) (cond (Nat.ble pc 220) (cond (Nat.beq pc 220) (some (.ireturn, 1)) none) (cond (Nat.beq pc 221) (some (.aload_n 0, 1)) none))))) (cond (Nat.ble pc 232) (cond (Nat.ble pc 226) (cond (Nat.ble pc 222) (cond (Nat.beq pc 222) (some (.getfield 48, 3)) none) (cond (Nat.ble pc 225) (cond (Nat.beq pc 225) (some (.iload_n 1, 1)) none) (cond (Nat.beq pc 226) (some (.iaload, 1)) none))) (cond (Nat.ble pc 228) (cond (Nat.ble pc 227) (cond (Nat.beq pc 227) (some (.iconst 1, 1)) none) (cond (Nat.beq pc 228) (some (.if_icmp .ne 7, 3)) none)) (cond (Nat.ble pc 231) (cond (Nat.beq pc 231) (some (.iconst 1, 1)) none) (cond (Nat.beq pc 232) (some (.goto 4, 3)) none)))) (cond (Nat.ble pc 238) (cond (Nat.ble pc 236) (cond (Nat.ble pc 235) (cond (Nat.beq pc 235) (some (.iconst 0, 1)) none) (cond (Nat.beq pc 236) (some (.ireturn, 1)) none)) (cond (Nat.ble pc 237) (cond (Nat.beq pc 237) (some (.aload_n 0, 1)) none) (cond (Nat.beq pc 238) (some (.iload_n 1, 1)) none))) (cond (Nat.ble pc 242) (cond (Nat.ble pc 239) (cond (Nat.beq pc 239) (some (.invokevirtual 192, 3)) none) (cond (Nat.beq pc 242) (some (.ireturn, 1)) none)) (cond (Nat.ble pc 243) (cond (Nat.beq pc 243) (some (.iconst 1, 1)) none) (cond (Nat.beq pc 244) (some (.ireturn, 1)) none))))))))
set_option maxRecDepth 100000 in
theorem zd89_0 : (List.range' 0 125).all (fun pc => match zI89 pc with | some q => decide (decode (zCode 89) pc = .ok q) | none => true) = true := by decide +kernel
set_option maxRecDepth 100000 in
theorem zd89_1 : (List.range' 125 66).all (fun pc => match zI89 pc with | some q => decide (decode (zCode 89) pc = .ok q) | none => true) = true := by decide +kernel
set_option maxRecDepth 100000 in
theorem zd89_2 : (List.range' 191 54).all (fun pc => match zI89 pc with | some q => decide (decode (zCode 89) pc = .ok q) | none => true) = true := by decide +kernel
theorem zJ89 {pc : Nat} {q : Jvm.ClassFile.Instr × Nat} (h : zI89 pc = some q) : decode (zCode 89) pc = .ok q := by
  have hb := (z_gd (n := 245) (pc := pc) h).1
  by_cases c0 : pc < 125
  · exact z_ck zd89_0 (by omega) (by omega) h
  by_cases c1 : pc < 191
  · exact z_ck zd89_1 (by omega) (by omega) h
  exact z_ck zd89_2 (by omega) (by omega) h
def zI90 (pc : Nat) : Option (Jvm.ClassFile.Instr × Nat) := cond (Nat.ble 513 pc) none (cond (Nat.ble pc 261) (cond (Nat.ble pc 132) (cond (Nat.ble pc 61) (cond (Nat.ble pc 31) (cond (Nat.ble pc 14) (cond (Nat.ble pc 5) (cond (Nat.ble pc 1) (cond (Nat.ble pc 0) (cond (Nat.beq pc 0) (some (.aload_n 0, 1)) none) (cond (Nat.beq pc 1) (some (.getfield 36, 3)) none)) (cond (Nat.ble pc 4) (cond (Nat.beq pc 4) (some (.iload_n 1, 1)) none) (cond (Nat.beq pc 5) (some (.iaload, 1)) none))) (cond (Nat.ble pc 7) (cond (Nat.ble pc 6) (cond (Nat.beq pc 6) (some (.istore_n 2, 1)) none) (cond (Nat.beq pc 7) (some (.aload_n 0, 1)) none)) (cond (Nat.ble pc 8) (cond (Nat.beq pc 8) (some (.getfield 153, 3)) none) (cond (Nat.ble pc 11) (cond (Nat.beq pc 11) (some (.ifCond .ne 21, 3)) none) (cond (Nat.beq pc 14) (some (.aload_n 0, 1)) none))))) (cond (Nat.ble pc 24) (cond (Nat.ble pc 18) (cond (Nat.ble pc 15) (cond (Nat.beq pc 15) (some (.getfield 164, 3)) none) (cond (Nat.beq pc 18) (some (.sipush 1000, 3)) none)) (cond (Nat.ble pc 21) (cond (Nat.beq pc 21) (some (.if_icmp .ne 11, 3)) none) (cond (Nat.beq pc 24) (some (.aload_n 0, 1)) none))) (cond (Nat.ble pc 26) (cond (Nat.ble pc 25) (cond (Nat.beq pc 25) (some (.iload_n 2, 1)) none) (cond (Nat.beq pc 26) (some (.iconst 2, 1)) none)) (cond (Nat.ble pc 27) (cond (Nat.beq pc 27) (some (.invokevirtual 160, 3)) none) (cond (Nat.ble pc 30) (cond (Nat.beq pc 30) (some (.iconst 0, 1)) none) (cond (Nat.beq pc 31) (some (.ireturn, 1)) none)))))) (cond (Nat.ble pc 48) (cond (Nat.ble pc 37) (cond (Nat.ble pc 33) (cond (Nat.ble pc 32) (cond (Nat.beq pc 32) (some (.aload_n 0, 1)) none) (cond (Nat.beq pc 33) (some (.dup, 1)) none)) (cond (Nat.ble pc 34) (cond (Nat.beq pc 34) (some (.getfield 164, 3)) none) (cond (Nat.beq pc 37) (some (.aload_n 0, 1)) none))) (cond (Nat.ble pc 41) (cond (Nat.ble pc 38) (cond (Nat.beq pc 38) (some (.getfield 153, 3)) none) (cond (Nat.beq pc 41) (some (.ifCond .eq 7, 3)) none)) (cond (Nat.ble pc 44) (cond (Nat.beq pc 44) (some (.iconst 0, 1)) none) (cond (Nat.ble pc 45) (cond (Nat.beq pc 45) (some (.goto 4, 3)) none) (cond (Nat.beq pc 48) (some (.iconst 1, 1)) none))))) (cond (Nat.ble pc 54) (cond (Nat.ble pc 50) (cond (Nat.ble pc 49) (cond (Nat.beq pc 49) (some (.iadd, 1)) none) (cond (Nat.beq pc 50) (some (.putfield 164, 3)) none)) (cond (Nat.ble pc 53) (cond (Nat.beq pc 53) (some (.aload_n 0, 1)) none) (cond (Nat.beq pc 54) (some (.getfield 9, 3)) none))) (cond (Nat.ble pc 58) (cond (Nat.ble pc 57) (cond (Nat.beq pc 57) (some (.iload_n 2, 1)) none) (cond (Nat.beq pc 58) (some (.iaload, 1)) none)) (cond (Nat.ble pc 59) (cond (Nat.beq pc 59) (some (.istore_n 3, 1)) none) (cond (Nat.ble pc 60) (cond (Nat.beq pc 60) (some (.iload_n 3, 1)) none) (cond (Nat.beq pc 61) (some (.bipush 13, 2)) none))))))) (cond (Nat.ble pc 97) (cond (Nat.ble pc 79) (cond (Nat.ble pc 69) (cond (Nat.ble pc 66) (cond (Nat.ble pc 63) (cond (Nat.beq pc 63) (some (.if_icmp .eq 27, 3)) none) (cond (Nat.beq pc 66) (some (.iload_n 3, 1)) none)) (cond (Nat.ble pc 67) (cond (Nat.beq pc 67) (some (.bipush 14, 2)) none) (cond (Nat.beq pc 69) (some (.if_icmp .eq 21, 3)) none))) (cond (Nat.ble pc 73) (cond (Nat.ble pc 72) (cond (Nat.beq pc 72) (some (.iload_n 3, 1)) none) (cond (Nat.beq pc 73) (some (.bipush 16, 2)) none)) (cond (Nat.ble pc 75) (cond (Nat.beq pc 75) (some (.if_icmp .eq 15, 3)) none) (cond (Nat.ble pc 78) (cond (Nat.beq pc 78) (some (.iload_n 3, 1)) none) (cond (Nat.beq pc 79) (some (.bipush 17, 2)) none))))) (cond (Nat.ble pc 87) (cond (Nat.ble pc 84) (cond (Nat.ble pc 81) (cond (Nat.beq pc 81) (some (.if_icmp .eq 9, 3)) none) (cond (Nat.beq pc 84) (some (.iload_n 3, 1)) none)) (cond (Nat.ble pc 85) (cond (Nat.beq pc 85) (some (.bipush 18, 2)) none) (cond (Nat.beq pc 87) (some (.if_icmp .ne 7, 3)) none))) (cond (Nat.ble pc 91) (cond (Nat.ble pc 90) (cond (Nat.beq pc 90) (some (.iconst 1, 1)) none) (cond (Nat.beq pc 91) (some (.goto 4, 3)) none)) (cond (Nat.ble pc 94) (cond (Nat.beq pc 94) (some (.iconst 0, 1)) none) (cond (Nat.ble pc 95) (cond (Nat.beq pc 95) (some (.istore 4, 2)) none) (cond (Nat.beq pc 97) (some (.iload_n 3, 1)) none)))))) (cond (Nat.ble pc 115) (cond (Nat.ble pc 104) (cond (Nat.ble pc 100) (cond (Nat.ble pc 98) (cond (Nat.beq pc 98) (some (.bipush 11, 2)) none) (cond (Nat.beq pc 100) (some (.if_icmp .eq 15, 3)) none)) (cond (Nat.ble pc 103) (cond (Nat.beq pc 103) (some (.iload_n 3, 1)) none) (cond (Nat.beq pc 104) (some (.bipush 12, 2)) none))) (cond (Nat.ble pc 109) (cond (Nat.ble pc 106) (cond (Nat.beq pc 106) (some (.if_icmp .eq 9, 3)) none) (cond (Nat.beq pc 109) (some (.iload_n 3, 1)) none)) (cond (Nat.ble pc 110) (cond (Nat.beq pc 110) (some (.bipush 19, 2)) none) (cond (Nat.ble pc 112) (cond (Nat.beq pc 112) (some (.if_icmp .ne 7, 3)) none) (cond (Nat.beq pc 115) (some (.iconst 1, 1)) none))))) (cond (Nat.ble pc 122) (cond (Nat.ble pc 119) (cond (Nat.ble pc 116) (cond (Nat.beq pc 116) (some (.goto 4, 3)) none) (cond (Nat.beq pc 119) (some (.iconst 0, 1)) none)) (cond (Nat.ble pc 120) (cond (Nat.beq pc 120) (some (.istore 5, 2)) none) (cond (Nat.beq pc 122) (some (.iload 4, 2)) none))) (cond (Nat.ble pc 127) (cond (Nat.ble pc 124) (cond (Nat.beq pc 124) (some (.ifCond .eq 16, 3)) none) (cond (Nat.beq pc 127) (some (.aload_n 0, 1)) none)) (cond (Nat.ble pc 128) (cond (Nat.beq pc 128) (some (.aload_n 0, 1)) none) (cond (Nat.ble pc 129) (cond (Nat.beq pc 129) (some (.getfield 13, 3)) none) (cond (Nat.beq pc 132) (some (.iload_n 2, 1)) none)))))))) (cond (Nat.ble pc 198) (cond (Nat.ble pc 167) (cond (Nat.ble pc 150) (cond (Nat.ble pc 140) (cond (Nat.ble pc 134) (cond (Nat.ble pc 133) (cond (Nat.beq pc 133) (some (.iaload, 1)) none) (cond (Nat.beq pc 134) (some (.invokevirtual 156, 3)) none)) (cond (Nat.ble pc 137) (cond (Nat.beq pc 137) (some (.goto 22, 3)) none) (cond (Nat.beq pc 140) (some (.iload 5, 2)) none))) (cond (Nat.ble pc 145) (cond (Nat.ble pc 142) (cond (Nat.beq pc 142) (some (.ifCond .eq 16, 3)) none) (cond (Nat.beq pc 145) (some (.aload_n 0, 1)) none)) (cond (Nat.ble pc 146) (cond (Nat.beq pc 146) (some (.aload_n 0, 1)) none) (cond (Nat.ble pc 147) (cond (Nat.beq pc 147) (some (.getfield 16, 3)) none) (cond (Nat.beq pc 150) (some (.iload_n 2, 1)) none))))) (cond (Nat.ble pc 158) (cond (Nat.ble pc 152) (cond (Nat.ble pc 151) (cond (Nat.beq pc 151) (some (.iaload, 1)) none) (cond (Nat.beq pc 152) (some (.invokevirtual 156, 3)) none)) (cond (Nat.ble pc 155) (cond (Nat.beq pc 155) (some (.goto 4, 3)) none) (cond (Nat.beq pc 158) (some (.lconst 0, 1)) none))) (cond (Nat.ble pc 161) (cond (Nat.ble pc 159) (cond (Nat.beq pc 159) (some (.lstore 6, 2)) none) (cond (Nat.beq pc 161) (some (.iload_n 3, 1)) none)) (cond (Nat.ble pc 162) (cond (Nat.beq pc 162) (some (.bipush 19, 2)) none) (cond (Nat.ble pc 164) (cond (Nat.beq pc 164) (some (.if_icmp .ne 16, 3)) none) (cond (Nat.beq pc 167) (some (.aload_n 0, 1)) none)))))) (cond (Nat.ble pc 183) (cond (Nat.ble pc 173) (cond (Nat.ble pc 169) (cond (Nat.ble pc 168) (cond (Nat.beq pc 168) (some (.aload_n 0, 1)) none) (cond (Nat.beq pc 169) (some (.getfield 19, 3)) none)) (cond (Nat.ble pc 172) (cond (Nat.beq pc 172) (some (.iload_n 2, 1)) none) (cond (Nat.beq pc 173) (some (.iaload, 1)) none))) (cond (Nat.ble pc 177) (cond (Nat.ble pc 174) (cond (Nat.beq pc 174) (some (.invokevirtual 156, 3)) none) (cond (Nat.beq pc 177) (some (.goto 4, 3)) none)) (cond (Nat.ble pc 180) (cond (Nat.beq pc 180) (some (.lconst 0, 1)) none) (cond (Nat.ble pc 181) (cond (Nat.beq pc 181) (some (.lstore 8, 2)) none) (cond (Nat.beq pc 183) (some (.aload_n 0, 1)) none))))) (cond (Nat.ble pc 191) (cond (Nat.ble pc 187) (cond (Nat.ble pc 184) (cond (Nat.beq pc 184) (some (.invokevirtual 167, 3)) none) (cond (Nat.beq pc 187) (some (.ifCond .eq 5, 3)) none)) (cond (Nat.ble pc 190) (cond (Nat.beq pc 190) (some (.iconst 0, 1)) none) (cond (Nat.beq pc 191) (some (.ireturn, 1)) none))) (cond (Nat.ble pc 193) (cond (Nat.ble pc 192) (cond (Nat.beq pc 192) (some (.aload_n 0, 1)) none) (cond (Nat.beq pc 193) (some (.getfield 45, 3)) none)) (cond (Nat.ble pc 196) (cond (Nat.beq pc 196) (some (.iload_n 1, 1)) none) (cond (Nat.ble pc 197) (cond (Nat.beq pc 197) (some (.iconst 1, 1)) none) (cond (Nat.beq pc 198) (some (.bastore, 1)) none))))))) (cond (Nat.ble pc 227) (cond (Nat.ble pc 211) (cond (Nat.ble pc 204) (cond (Nat.ble pc 200) (cond (Nat.ble pc 199) (cond (Nat.beq pc 199) (some (.aload_n 0, 1)) none) (cond (Nat.beq pc 200) (some (.getfield 48, 3)) none)) (cond (Nat.ble pc 203) (cond (Nat.beq pc 203) (some (.iload_n 1, 1)) none) (cond (Nat.beq pc 204) (some (.iconst 0, 1)) none))) (cond (Nat.ble pc 206) (cond (Nat.ble pc 205) (cond (Nat.beq pc 205) (some (.iastore, 1)) none) (cond (Nat.beq pc 206) (some (.aload_n 0, 1)) none)) (cond (Nat.ble pc 207) (cond (Nat.beq pc 207) (some (.getfield 51, 3)) none) (cond (Nat.ble pc 210) (cond (Nat.beq pc 210) (some (.iload_n 1, 1)) none) (cond (Nat.beq pc 211) (some (.aload_n 0, 1)) none))))) (cond (Nat.ble pc 217) (cond (Nat.ble pc 215) (cond (Nat.ble pc 212) (cond (Nat.beq pc 212) (some (.getfield 143, 3)) none) (cond (Nat.beq pc 215) (some (.lastore, 1)) none)) (cond (Nat.ble pc 216) (cond (Nat.beq pc 216) (some (.aload_n 0, 1)) none) (cond (Nat.beq pc 217) (some (.getfield 54, 3)) none))) (cond (Nat.ble pc 221) (cond (Nat.ble pc 220) (cond (Nat.beq pc 220) (some (.iload_n 1, 1)) none) (cond (Nat.beq pc 221) (some (.iload_n 3, 1)) none)) (cond (Nat.ble pc 222) (cond (Nat.beq pc 222) (some (.bipush 19, 2)) none) (cond (Nat.ble pc 224) (cond (Nat.beq pc 224) (some (.if_icmp .ne 8, 3)) none) (cond (Nat.beq pc 227) (some (.lload 8, 2)) none)))))) (cond (Nat.ble pc 243) (cond (Nat.ble pc 235) (cond (Nat.ble pc 232) (cond (Nat.ble pc 229) (cond (Nat.beq pc 229) (some (.goto 5, 3)) none) (cond (Nat.beq pc 232) (some (.lload 6, 2)) none)) (cond (Nat.ble pc 234) (cond (Nat.beq pc 234) (some (.lastore, 1)) none) (cond (Nat.beq pc 235) (some (.aload_n 0, 1)) none))) (cond (Nat.ble pc 239) (cond (Nat.ble pc 236) (cond (Nat.beq pc 236) (some (.getfield 57, 3)) none) (cond (Nat.beq pc 239) (some (.iload_n 1, 1)) none)) (cond (Nat.ble pc 240) (cond (Nat.beq pc 240) (some (.lload 6, 2)) none) (cond (Nat.ble pc 242) (cond (Nat.beq pc 242) (some (.lastore, 1)) none) (cond (Nat.beq pc 243) (some (.iload_n 3, 1)) none))))) (cond (Nat.ble pc 253) (cond (Nat.ble pc 246) (cond (Nat.ble pc 244) (cond (Nat.beq pc 244) (some (.bipush 11, 2)) none) (cond (Nat.beq pc 246) (some (.if_icmp .ne 19, 3)) none)) (cond (Nat.ble pc 249) (cond (Nat.beq pc 249) (some (.aload_n 0, 1)) none) (cond (Nat.ble pc 250) (cond (Nat.beq pc 250) (some (.getfield 69, 3)) none) (cond (Nat.beq pc 253) (some (.aload_n 0, 1)) none)))) (cond (Nat.ble pc 257) (cond (Nat.ble pc 254) (cond (Nat.beq pc 254) (some (.getfield 13, 3)) none) (cond (Nat.beq pc 257) (some (.iload_n 2, 1)) none)) (cond (Nat.ble pc 258) (cond (Nat.beq pc 258) (some (.iaload, 1)) none) (cond (Nat.ble pc 259) (cond (Nat.beq pc 259) (some (.lload 6, 2)) none) (cond (Nat.beq pc 261) (some (.lastore, 1)) none))))))))) (cond (Nat.ble pc 388) (cond (Nat.ble pc 323) (cond (Nat.ble pc 294) (cond (Nat.ble pc 279) (cond (Nat.ble pc 268) (cond (Nat.ble pc 265) (cond (Nat.ble pc 262) (cond (Nat.beq pc 262) (some (.goto 207, 3)) none) (cond (Nat.beq pc 265) (some (.iload_n 3, 1)) none)) (cond (Nat.ble pc 266) (cond (Nat.beq pc 266) (some (.bipush 12, 2)) none) (cond (Nat.beq pc 268) (some (.if_icmp .ne 19, 3)) none))) (cond (Nat.ble pc 272) (cond (Nat.ble pc 271) (cond (Nat.beq pc 271) (some (.aload_n 0, 1)) none) (cond (Nat.beq pc 272) (some (.getfield 66, 3)) none)) (cond (Nat.ble pc 275) (cond (Nat.beq pc 275) (some (.aload_n 0, 1)) none) (cond (Nat.ble pc 276) (cond (Nat.beq pc 276) (some (.getfield 13, 3)) none) (cond (Nat.beq pc 279) (some (.iload_n 2, 1)) none))))) (cond (Nat.ble pc 284) (cond (Nat.ble pc 281) (cond (Nat.ble pc 280) (cond (Nat.beq pc 280) (some (.iaload, 1)) none) (cond (Nat.beq pc 281) (some (.lload 6, 2)) none)) (cond (Nat.ble pc 283) (cond (Nat.beq pc 283) (some (.lastore, 1)) none) (cond (Nat.beq pc 284) (some (.goto 185, 3)) none))) (cond (Nat.ble pc 288) (cond (Nat.ble pc 287) (cond (Nat.beq pc 287) (some (.iload_n 3, 1)) none) (cond (Nat.beq pc 288) (some (.bipush 19, 2)) none)) (cond (Nat.ble pc 290) (cond (Nat.beq pc 290) (some (.if_icmp .ne 75, 3)) none) (cond (Nat.ble pc 293) (cond (Nat.beq pc 293) (some (.aload_n 0, 1)) none) (cond (Nat.beq pc 294) (some (.getfield 60, 3)) none)))))) (cond (Nat.ble pc 309) (cond (Nat.ble pc 302) (cond (Nat.ble pc 298) (cond (Nat.ble pc 297) (cond (Nat.beq pc 297) (some (.iload_n 1, 1)) none) (cond (Nat.beq pc 298) (some (.aload_n 0, 1)) none)) (cond (Nat.ble pc 299) (cond (Nat.beq pc 299) (some (.getfield 69, 3)) none) (cond (Nat.beq pc 302) (some (.aload_n 0, 1)) none))) (cond (Nat.ble pc 306) (cond (Nat.ble pc 303) (cond (Nat.beq pc 303) (some (.getfield 13, 3)) none) (cond (Nat.beq pc 306) (some (.iload_n 2, 1)) none)) (cond (Nat.ble pc 307) (cond (Nat.beq pc 307) (some (.iaload, 1)) none) (cond (Nat.ble pc 308) (cond (Nat.beq pc 308) (some (.laload, 1)) none) (cond (Nat.beq pc 309) (some (.lastore, 1)) none))))) (cond (Nat.ble pc 315) (cond (Nat.ble pc 311) (cond (Nat.ble pc 310) (cond (Nat.beq pc 310) (some (.aload_n 0, 1)) none) (cond (Nat.beq pc 311) (some (.getfield 48, 3)) none)) (cond (Nat.ble pc 314) (cond (Nat.beq pc 314) (some (.iload_n 1, 1)) none) (cond (Nat.beq pc 315) (some (.lload 8, 2)) none))) (cond (Nat.ble pc 318) (cond (Nat.ble pc 317) (cond (Nat.beq pc 317) (some (.lconst 1, 1)) none) (cond (Nat.beq pc 318) (some (.lcmp, 1)) none)) (cond (Nat.ble pc 319) (cond (Nat.beq pc 319) (some (.ifCond .ge 7, 3)) none) (cond (Nat.ble pc 322) (cond (Nat.beq pc 322) (some (.iconst 1, 1)) none) (cond (Nat.beq pc 323) (some (.goto 4, 3)) none))))))) (cond (Nat.ble pc 355) (cond (Nat.ble pc 338) (cond (Nat.ble pc 329) (cond (Nat.ble pc 327) (cond (Nat.ble pc 326) (cond (Nat.beq pc 326) (some (.iconst 0, 1)) none) (cond (Nat.beq pc 327) (some (.iastore, 1)) none)) (cond (Nat.ble pc 328) (cond (Nat.beq pc 328) (some (.aload_n 0, 1)) none) (cond (Nat.beq pc 329) (some (.getfield 69, 3)) none))) (cond (Nat.ble pc 333) (cond (Nat.ble pc 332) (cond (Nat.beq pc 332) (some (.aload_n 0, 1)) none) (cond (Nat.beq pc 333) (some (.getfield 13, 3)) none)) (cond (Nat.ble pc 336) (cond (Nat.beq pc 336) (some (.iload_n 2, 1)) none) (cond (Nat.ble pc 337) (cond (Nat.beq pc 337) (some (.iaload, 1)) none) (cond (Nat.beq pc 338) (some (.lload 8, 2)) none))))) (cond (Nat.ble pc 345) (cond (Nat.ble pc 341) (cond (Nat.ble pc 340) (cond (Nat.beq pc 340) (some (.lconst 1, 1)) none) (cond (Nat.beq pc 341) (some (.lcmp, 1)) none)) (cond (Nat.ble pc 342) (cond (Nat.beq pc 342) (some (.ifCond .ge 8, 3)) none) (cond (Nat.beq pc 345) (some (.lload 6, 2)) none))) (cond (Nat.ble pc 350) (cond (Nat.ble pc 347) (cond (Nat.beq pc 347) (some (.goto 14, 3)) none) (cond (Nat.beq pc 350) (some (.aload_n 0, 1)) none)) (cond (Nat.ble pc 351) (cond (Nat.beq pc 351) (some (.getfield 69, 3)) none) (cond (Nat.ble pc 354) (cond (Nat.beq pc 354) (some (.aload_n 0, 1)) none) (cond (Nat.beq pc 355) (some (.getfield 13, 3)) none)))))) (cond (Nat.ble pc 371) (cond (Nat.ble pc 361) (cond (Nat.ble pc 359) (cond (Nat.ble pc 358) (cond (Nat.beq pc 358) (some (.iload_n 2, 1)) none) (cond (Nat.beq pc 359) (some (.iaload, 1)) none)) (cond (Nat.ble pc 360) (cond (Nat.beq pc 360) (some (.laload, 1)) none) (cond (Nat.beq pc 361) (some (.lastore, 1)) none))) (cond (Nat.ble pc 365) (cond (Nat.ble pc 362) (cond (Nat.beq pc 362) (some (.goto 107, 3)) none) (cond (Nat.beq pc 365) (some (.iload_n 3, 1)) none)) (cond (Nat.ble pc 366) (cond (Nat.beq pc 366) (some (.bipush 14, 2)) none) (cond (Nat.ble pc 368) (cond (Nat.beq pc 368) (some (.if_icmp .ne 24, 3)) none) (cond (Nat.beq pc 371) (some (.aload_n 0, 1)) none))))) (cond (Nat.ble pc 379) (cond (Nat.ble pc 375) (cond (Nat.ble pc 372) (cond (Nat.beq pc 372) (some (.getfield 48, 3)) none) (cond (Nat.beq pc 375) (some (.iload_n 1, 1)) none)) (cond (Nat.ble pc 376) (cond (Nat.beq pc 376) (some (.lload 6, 2)) none) (cond (Nat.ble pc 378) (cond (Nat.beq pc 378) (some (.lconst 0, 1)) none) (cond (Nat.beq pc 379) (some (.lcmp, 1)) none)))) (cond (Nat.ble pc 383) (cond (Nat.ble pc 380) (cond (Nat.beq pc 380) (some (.ifCond .eq 7, 3)) none) (cond (Nat.beq pc 383) (some (.iconst 1, 1)) none)) (cond (Nat.ble pc 384) (cond (Nat.beq pc 384) (some (.goto 4, 3)) none) (cond (Nat.ble pc 387) (cond (Nat.beq pc 387) (some (.iconst 0, 1)) none) (cond (Nat.beq pc 388) (some (.iastore, 1)) none)))))))) (cond (Nat.ble pc 454) (cond (Nat.ble pc 420) (cond (Nat.ble pc 405) (cond (Nat.ble pc 395) (cond (Nat.ble pc 392) (cond (Nat.ble pc 389) (cond (Nat.beq pc 389) (some (.goto 80, 3)) none) (cond (Nat.beq pc 392) (some (.iload_n 3, 1)) none)) (cond (Nat.ble pc 393) (cond (Nat.beq pc 393) (some (.bipush 16, 2)) none) (cond (Nat.beq pc 395) (some (.if_icmp .ne 37, 3)) none))) (cond (Nat.ble pc 399) (cond (Nat.ble pc 398) (cond (Nat.beq pc 398) (some (.aload_n 0, 1)) none) (cond (Nat.beq pc 399) (some (.getfield 48, 3)) none)) (cond (Nat.ble pc 402) (cond (Nat.beq pc 402) (some (.iload_n 1, 1)) none) (cond (Nat.ble pc 403) (cond (Nat.beq pc 403) (some (.lload 6, 2)) none) (cond (Nat.beq pc 405) (some (.lconst 0, 1)) none))))) (cond (Nat.ble pc 411) (cond (Nat.ble pc 407) (cond (Nat.ble pc 406) (cond (Nat.beq pc 406) (some (.lcmp, 1)) none) (cond (Nat.beq pc 407) (some (.ifCond .eq 7, 3)) none)) (cond (Nat.ble pc 410) (cond (Nat.beq pc 410) (some (.iconst 0, 1)) none) (cond (Nat.beq pc 411) (some (.goto 17, 3)) none))) (cond (Nat.ble pc 415) (cond (Nat.ble pc 414) (cond (Nat.beq pc 414) (some (.aload_n 0, 1)) none) (cond (Nat.beq pc 415) (some (.getfield 42, 3)) none)) (cond (Nat.ble pc 418) (cond (Nat.beq pc 418) (some (.iload_n 1, 1)) none) (cond (Nat.ble pc 419) (cond (Nat.beq pc 419) (some (.iaload, 1)) none) (cond (Nat.beq pc 420) (some (.ifCond .lt 7, 3)) none)))))) (cond (Nat.ble pc 438) (cond (Nat.ble pc 428) (cond (Nat.ble pc 424) (cond (Nat.ble pc 423) (cond (Nat.beq pc 423) (some (.iconst 1, 1)) none) (cond (Nat.beq pc 424) (some (.goto 4, 3)) none)) (cond (Nat.ble pc 427) (cond (Nat.beq pc 427) (some (.iconst 2, 1)) none) (cond (Nat.beq pc 428) (some (.iastore, 1)) none))) (cond (Nat.ble pc 432) (cond (Nat.ble pc 429) (cond (Nat.beq pc 429) (some (.goto 40, 3)) none) (cond (Nat.beq pc 432) (some (.iload_n 3, 1)) none)) (cond (Nat.ble pc 433) (cond (Nat.beq pc 433) (some (.bipush 18, 2)) none) (cond (Nat.ble pc 435) (cond (Nat.beq pc 435) (some (.if_icmp .ne 34, 3)) none) (cond (Nat.beq pc 438) (some (.aload_n 0, 1)) none))))) (cond (Nat.ble pc 445) (cond (Nat.ble pc 442) (cond (Nat.ble pc 439) (cond (Nat.beq pc 439) (some (.getfield 48, 3)) none) (cond (Nat.beq pc 442) (some (.iload_n 1, 1)) none)) (cond (Nat.ble pc 443) (cond (Nat.beq pc 443) (some (.lload 6, 2)) none) (cond (Nat.beq pc 445) (some (.lconst 0, 1)) none))) (cond (Nat.ble pc 447) (cond (Nat.ble pc 446) (cond (Nat.beq pc 446) (some (.lcmp, 1)) none) (cond (Nat.beq pc 447) (some (.ifCond .eq 7, 3)) none)) (cond (Nat.ble pc 450) (cond (Nat.beq pc 450) (some (.iconst 0, 1)) none) (cond (Nat.ble pc 451) (cond (Nat.beq pc 451) (some (.goto 4, 3)) none) (cond (Nat.beq pc 454) (some (.iconst 1, 1)) none))))))) (cond (Nat.ble pc 483) (cond (Nat.ble pc 466) (cond (Nat.ble pc 459) (cond (Nat.ble pc 456) (cond (Nat.ble pc 455) (cond (Nat.beq pc 455) (some (.iastore, 1)) none) (cond (Nat.beq pc 456) (some (.lload 6, 2)) none)) (cond (Nat.ble pc 458) (cond (Nat.beq pc 458) (some (.lconst 0, 1)) none) (cond (Nat.beq pc 459) (some (.lcmp, 1)) none))) (cond (Nat.ble pc 463) (cond (Nat.ble pc 460) (cond (Nat.beq pc 460) (some (.ifCond .ne 9, 3)) none) (cond (Nat.beq pc 463) (some (.aload_n 0, 1)) none)) (cond (Nat.ble pc 464) (cond (Nat.beq pc 464) (some (.iload_n 2, 1)) none) (cond (Nat.ble pc 465) (cond (Nat.beq pc 465) (some (.iconst 3, 1)) none) (cond (Nat.beq pc 466) (some (.invokevirtual 160, 3)) none))))) (cond (Nat.ble pc 474) (cond (Nat.ble pc 470) (cond (Nat.ble pc 469) (cond (Nat.beq pc 469) (some (.aload_n 0, 1)) none) (cond (Nat.beq pc 470) (some (.getfield 39, 3)) none)) (cond (Nat.ble pc 473) (cond (Nat.beq pc 473) (some (.iload_n 1, 1)) none) (cond (Nat.beq pc 474) (some (.iaload, 1)) none))) (cond (Nat.ble pc 478) (cond (Nat.ble pc 475) (cond (Nat.beq pc 475) (some (.ifCond .lt 15, 3)) none) (cond (Nat.beq pc 478) (some (.aload_n 0, 1)) none)) (cond (Nat.ble pc 479) (cond (Nat.beq pc 479) (some (.getfield 45, 3)) none) (cond (Nat.ble pc 482) (cond (Nat.beq pc 482) (some (.aload_n 0, 1)) none) (cond (Nat.beq pc 483) (some (.getfield 39, 3)) none)))))) (cond (Nat.ble pc 496) (cond (Nat.ble pc 489) (cond (Nat.ble pc 487) (cond (Nat.ble pc 486) (cond (Nat.beq pc 486) (some (.iload_n 1, 1)) none) (cond (Nat.beq pc 487) (some (.iaload, 1)) none)) (cond (Nat.ble pc 488) (cond (Nat.beq pc 488) (some (.iconst 0, 1)) none) (cond (Nat.beq pc 489) (some (.bastore, 1)) none))) (cond (Nat.ble pc 491) (cond (Nat.ble pc 490) (cond (Nat.beq pc 490) (some (.aload_n 0, 1)) none) (cond (Nat.beq pc 491) (some (.getfield 42, 3)) none)) (cond (Nat.ble pc 494) (cond (Nat.beq pc 494) (some (.iload_n 1, 1)) none) (cond (Nat.ble pc 495) (cond (Nat.beq pc 495) (some (.iaload, 1)) none) (cond (Nat.beq pc 496) (some (.ifCond .lt 15, 3)) none))))) (cond (Nat.ble pc 507) (cond (Nat.ble pc 500) (cond (Nat.ble pc 499) (cond (Nat.beq pc 499) (some (.aload_n 0, 1)) none) (cond (Nat.beq pc 500) (some (.getfield 45, 3)) none)) (cond (Nat.ble pc 503) (cond (Nat.beq pc 503) (some (.aload_n 0, 1)) none) (cond (Nat.ble pc 504) (cond (Nat.beq pc 504) (some (.getfield 42, 3)) none) (cond (Nat.beq pc 507) (some (.iload_n 1, 1)) none)))) (cond (Nat.ble pc 509) (cond (Nat.ble pc 508) (cond (Nat.beq pc 508) (some (.iaload, 1)) none) (cond (Nat.beq pc 509) (some (.iconst 0, 1)) none)) (cond (Nat.ble pc 510) (cond (Nat.beq pc 510) (some (.bastore, 1)) none) (cond (Nat.ble pc 511) (cond (Nat.beq pc 511) (some (.iconst 1, 1)) none) (cond (Nat.beq pc 512) (some (.ireturn, 1)) none))))))))))
set_option maxRecDepth 100000 in
theorem zd90_0 : (List.range' 0 72).all (fun pc => match zI90 pc with | some q => decide (decode (zCode 90) pc = .ok q) | none => true) = true := by decide +kernel
set_option maxRecDepth 100000 in
theorem zd90_1 : (List.range' 72 78).all (fun pc => match zI90 pc with | some q => decide (decode (zCode 90) pc = .ok q) | none => true) = true := by decide +kernel
set_option maxRecDepth 100000 in
theorem zd90_2 : (List.range' 150 67).all (fun pc => match zI90 pc with | some q => decide (decode (zCode 90) pc = .ok q) | none => true) = true := by decide +kernel
set_option maxRecDepth 100000 in
theorem zd90_3 : (List.range' 217 73).all (fun pc => match zI90 pc with | some q => decide (decode (zCode 90) pc = .ok q) | none => true) = true := by decide +kernel
set_option maxRecDepth 100000 in
theorem zd90_4 : (List.range' 290 69).all (fun pc => match zI90 pc with | some q => decide (decode (zCode 90) pc = .ok q) | none => true) = true := by decide +kernel
set_option maxRecDepth 100000 in
theorem zd90_5 : (List.range' 359 70).all (fun pc => match zI90 pc with | some q => decide (decode (zCode 90) pc = .ok q) | none => true) = true := by decide +kernel
set_option maxRecDepth 100000 in
theorem zd90_6 : (List.range' 429 67).all (fun pc => match zI90 pc with | some q => decide (decode (zCode 90) pc = .ok q) | none => true) = true := by decide +kernel
set_option maxRecDepth 100000 in
theorem zd90_7 : (List.range' 496 17).all (fun pc => match zI90 pc with | some q => decide (decode (zCode 90) pc = .ok q) | none => true) = true := by decide +kernel
theorem zJ90 {pc : Nat} {q : Jvm.ClassFile.Instr × Nat} (h : zI90 pc = some q) : decode (zCode 90) pc = .ok q := by
  have hb := (z_gd (n := 513) (pc := pc) h).1
  by_cases c0 : pc < 72
  · exact z_ck zd90_0 (by omega) (by omega) h
  by_cases c1 : pc < 150
  · exact z_ck zd90_1 (by omega) (by omega) h
  by_cases c2 : pc < 217
  · exact z_ck zd90_2 (by omega) (by omega) h
  by_cases c3 : pc < 290
  · exact z_ck zd90_3 (by omega) (by omega) h
  by_cases c4 : pc < 359
  · exact z_ck zd90_4 (by omega) (by omega) h
  by_cases c5 : pc < 429
  · exact z_ck zd90_5 (by omega) (by omega) h
  by_cases c6 : pc < 496
  · exact z_ck zd90_6 (by omega) (by omega) h
  exact z_ck zd90_7 (by omega) (by omega) h
end
section
/-! decoded code, by program (wip/whole/gen2.py) -/
def zI91 (pc : Nat) : Option (Jvm.ClassFile.Instr × Nat) := cond (Nat.ble 45 pc) none (cond (Nat.ble pc 21) (cond (Nat.ble pc 10) (cond (Nat.ble pc 4) (cond (Nat.ble pc 0) (cond (Nat.beq pc 0) (some (.aload_n 0, 1)) none) (cond (Nat.ble pc 1) (cond (Nat.beq pc 1) (some (.getfield 48, 3)) none) (cond (Nat.beq pc 4) (some (.iload_n 1, 1)) none))) (cond (Nat.ble pc 6) (cond (Nat.ble pc 5) (cond (Nat.beq pc 5) (some (.iaload, 1)) none) (cond (Nat.beq pc 6) (some (.ifCond .ne 28, 3)) none)) (cond (Nat.ble pc 9) (cond (Nat.beq pc 9) (some (.aload_n 0, 1)) none) (cond (Nat.beq pc 10) (some (.aload_n 0, 1)) none)))) (cond (Nat.ble pc 15) (cond (Nat.ble pc 11) (cond (Nat.beq pc 11) (some (.getfield 39, 3)) none) (cond (Nat.ble pc 14) (cond (Nat.beq pc 14) (some (.iload_n 1, 1)) none) (cond (Nat.beq pc 15) (some (.iaload, 1)) none))) (cond (Nat.ble pc 19) (cond (Nat.ble pc 16) (cond (Nat.beq pc 16) (some (.invokevirtual 183, 3)) none) (cond (Nat.beq pc 19) (some (.istore_n 2, 1)) none)) (cond (Nat.ble pc 20) (cond (Nat.beq pc 20) (some (.iload_n 2, 1)) none) (cond (Nat.beq pc 21) (some (.iconst 1, 1)) none))))) (cond (Nat.ble pc 32) (cond (Nat.ble pc 26) (cond (Nat.ble pc 22) (cond (Nat.beq pc 22) (some (.if_icmp .eq 5, 3)) none) (cond (Nat.ble pc 25) (cond (Nat.beq pc 25) (some (.iload_n 2, 1)) none) (cond (Nat.beq pc 26) (some (.ireturn, 1)) none))) (cond (Nat.ble pc 28) (cond (Nat.ble pc 27) (cond (Nat.beq pc 27) (some (.aload_n 0, 1)) none) (cond (Nat.beq pc 28) (some (.getfield 48, 3)) none)) (cond (Nat.ble pc 31) (cond (Nat.beq pc 31) (some (.iload_n 1, 1)) none) (cond (Nat.beq pc 32) (some (.iconst 1, 1)) none)))) (cond (Nat.ble pc 36) (cond (Nat.ble pc 34) (cond (Nat.ble pc 33) (cond (Nat.beq pc 33) (some (.iastore, 1)) none) (cond (Nat.beq pc 34) (some (.aload_n 0, 1)) none)) (cond (Nat.ble pc 35) (cond (Nat.beq pc 35) (some (.aload_n 0, 1)) none) (cond (Nat.beq pc 36) (some (.getfield 42, 3)) none))) (cond (Nat.ble pc 40) (cond (Nat.ble pc 39) (cond (Nat.beq pc 39) (some (.iload_n 1, 1)) none) (cond (Nat.beq pc 40) (some (.iaload, 1)) none)) (cond (Nat.ble pc 41) (cond (Nat.beq pc 41) (some (.invokevirtual 183, 3)) none) (cond (Nat.beq pc 44) (some (.ireturn, 1)) none))))))
set_option maxRecDepth 100000 in
theorem zd91_0 : (List.range' 0 45).all (fun pc => match zI91 pc with | some q => decide (decode (zCode 91) pc = .ok q) | none => true) = true := by decide +kernel
theorem zJ91 {pc : Nat} {q : Jvm.ClassFile.Instr × Nat} (h : zI91 pc = some q) : decode (zCode 91) pc = .ok q := by
  have hb := (z_gd (n := 45) (pc := pc) h).1
  exact z_ck zd91_0 (by omega) (by omega) h
def zI92 (pc : Nat) : Option (Jvm.ClassFile.Instr × Nat) := cond (Nat.ble 81 pc) none (cond (Nat.ble pc 39) (cond (Nat.ble pc 19) (cond (Nat.ble pc 9) (cond (Nat.ble pc 4) (cond (Nat.ble pc 0) (cond (Nat.beq pc 0) (some (.aload_n 0, 1)) none) (cond (Nat.ble pc 1) (cond (Nat.beq pc 1) (some (.getfield 48, 3)) none) (cond (Nat.beq pc 4) (some (.iload_n 1, 1)) none))) (cond (Nat.ble pc 5) (cond (Nat.beq pc 5) (some (.iaload, 1)) none) (cond (Nat.ble pc 6) (cond (Nat.beq pc 6) (some (.ifCond .ne 59, 3)) none) (cond (Nat.beq pc 9) (some (.aload_n 0, 1)) none)))) (cond (Nat.ble pc 14) (cond (Nat.ble pc 10) (cond (Nat.beq pc 10) (some (.getfield 51, 3)) none) (cond (Nat.ble pc 13) (cond (Nat.beq pc 13) (some (.iload_n 1, 1)) none) (cond (Nat.beq pc 14) (some (.laload, 1)) none))) (cond (Nat.ble pc 15) (cond (Nat.beq pc 15) (some (.aload_n 0, 1)) none) (cond (Nat.ble pc 16) (cond (Nat.beq pc 16) (some (.getfield 143, 3)) none) (cond (Nat.beq pc 19) (some (.lcmp, 1)) none))))) (cond (Nat.ble pc 29) (cond (Nat.ble pc 24) (cond (Nat.ble pc 20) (cond (Nat.beq pc 20) (some (.ifCond .eq 45, 3)) none) (cond (Nat.ble pc 23) (cond (Nat.beq pc 23) (some (.aload_n 0, 1)) none) (cond (Nat.beq pc 24) (some (.aload_n 0, 1)) none))) (cond (Nat.ble pc 25) (cond (Nat.beq pc 25) (some (.getfield 13, 3)) none) (cond (Nat.ble pc 28) (cond (Nat.beq pc 28) (some (.aload_n 0, 1)) none) (cond (Nat.beq pc 29) (some (.getfield 36, 3)) none)))) (cond (Nat.ble pc 34) (cond (Nat.ble pc 32) (cond (Nat.beq pc 32) (some (.iload_n 1, 1)) none) (cond (Nat.ble pc 33) (cond (Nat.beq pc 33) (some (.iaload, 1)) none) (cond (Nat.beq pc 34) (some (.iaload, 1)) none))) (cond (Nat.ble pc 35) (cond (Nat.beq pc 35) (some (.invokevirtual 156, 3)) none) (cond (Nat.ble pc 38) (cond (Nat.beq pc 38) (some (.lstore_n 2, 1)) none) (cond (Nat.beq pc 39) (some (.aload_n 0, 1)) none)))))) (cond (Nat.ble pc 59) (cond (Nat.ble pc 49) (cond (Nat.ble pc 46) (cond (Nat.ble pc 40) (cond (Nat.beq pc 40) (some (.invokevirtual 167, 3)) none) (cond (Nat.ble pc 43) (cond (Nat.beq pc 43) (some (.ifCond .eq 5, 3)) none) (cond (Nat.beq pc 46) (some (.iconst 2, 1)) none))) (cond (Nat.ble pc 47) (cond (Nat.beq pc 47) (some (.ireturn, 1)) none) (cond (Nat.ble pc 48) (cond (Nat.beq pc 48) (some (.aload_n 0, 1)) none) (cond (Nat.beq pc 49) (some (.getfield 48, 3)) none)))) (cond (Nat.ble pc 54) (cond (Nat.ble pc 52) (cond (Nat.beq pc 52) (some (.iload_n 1, 1)) none) (cond (Nat.ble pc 53) (cond (Nat.beq pc 53) (some (.lload_n 2, 1)) none) (cond (Nat.beq pc 54) (some (.lconst 0, 1)) none))) (cond (Nat.ble pc 55) (cond (Nat.beq pc 55) (some (.lcmp, 1)) none) (cond (Nat.ble pc 56) (cond (Nat.beq pc 56) (some (.ifCond .eq 7, 3)) none) (cond (Nat.beq pc 59) (some (.iconst 1, 1)) none))))) (cond (Nat.ble pc 69) (cond (Nat.ble pc 64) (cond (Nat.ble pc 60) (cond (Nat.beq pc 60) (some (.goto 4, 3)) none) (cond (Nat.ble pc 63) (cond (Nat.beq pc 63) (some (.iconst 0, 1)) none) (cond (Nat.beq pc 64) (some (.iastore, 1)) none))) (cond (Nat.ble pc 65) (cond (Nat.beq pc 65) (some (.aload_n 0, 1)) none) (cond (Nat.ble pc 66) (cond (Nat.beq pc 66) (some (.getfield 48, 3)) none) (cond (Nat.beq pc 69) (some (.iload_n 1, 1)) none)))) (cond (Nat.ble pc 72) (cond (Nat.ble pc 70) (cond (Nat.beq pc 70) (some (.iaload, 1)) none) (cond (Nat.ble pc 71) (cond (Nat.beq pc 71) (some (.iconst 1, 1)) none) (cond (Nat.beq pc 72) (some (.if_icmp .ne 7, 3)) none))) (cond (Nat.ble pc 76) (cond (Nat.ble pc 75) (cond (Nat.beq pc 75) (some (.iconst 1, 1)) none) (cond (Nat.beq pc 76) (some (.goto 4, 3)) none)) (cond (Nat.ble pc 79) (cond (Nat.beq pc 79) (some (.iconst 0, 1)) none) (cond (Nat.beq pc 80) (some (.ireturn, 1)) none)))))))
set_option maxRecDepth 100000 in
theorem zd92_0 : (List.range' 0 66).all (fun pc => match zI92 pc with | some q => decide (decode (zCode 92) pc = .ok q) | none => true) = true := by decide +kernel
set_option maxRecDepth 100000 in
theorem zd92_1 : (List.range' 66 15).all (fun pc => match zI92 pc with | some q => decide (decode (zCode 92) pc = .ok q) | none => true) = true := by decide +kernel
theorem zJ92 {pc : Nat} {q : Jvm.ClassFile.Instr × Nat} (h : zI92 pc = some q) : decode (zCode 92) pc = .ok q := by
  have hb := (z_gd (n := 81) (pc := pc) h).1
  by_cases c0 : pc < 66
  · exact z_ck zd92_0 (by omega) (by omega) h
  exact z_ck zd92_1 (by omega) (by omega) h
def zI93 (pc : Nat) : Option (Jvm.ClassFile.Instr × Nat) := cond (Nat.ble 91 pc) none (cond (Nat.ble pc 43) (cond (Nat.ble pc 19) (cond (Nat.ble pc 8) (cond (Nat.ble pc 2) (cond (Nat.ble pc 0) (cond (Nat.beq pc 0) (some (.iconst 1, 1)) none) (cond (Nat.ble pc 1) (cond (Nat.beq pc 1) (some (.istore_n 2, 1)) none) (cond (Nat.beq pc 2) (some (.iload_n 2, 1)) none))) (cond (Nat.ble pc 4) (cond (Nat.ble pc 3) (cond (Nat.beq pc 3) (some (.iconst 3, 1)) none) (cond (Nat.beq pc 4) (some (.if_icmp .ge 71, 3)) none)) (cond (Nat.ble pc 7) (cond (Nat.beq pc 7) (some (.aload_n 0, 1)) none) (cond (Nat.beq pc 8) (some (.getfield 48, 3)) none)))) (cond (Nat.ble pc 13) (cond (Nat.ble pc 11) (cond (Nat.beq pc 11) (some (.iload_n 1, 1)) none) (cond (Nat.ble pc 12) (cond (Nat.beq pc 12) (some (.iaload, 1)) none) (cond (Nat.beq pc 13) (some (.iload_n 2, 1)) none))) (cond (Nat.ble pc 15) (cond (Nat.ble pc 14) (cond (Nat.beq pc 14) (some (.iand, 1)) none) (cond (Nat.beq pc 15) (some (.ifCond .ne 54, 3)) none)) (cond (Nat.ble pc 18) (cond (Nat.beq pc 18) (some (.aload_n 0, 1)) none) (cond (Nat.beq pc 19) (some (.iload_n 2, 1)) none))))) (cond (Nat.ble pc 30) (cond (Nat.ble pc 24) (cond (Nat.ble pc 20) (cond (Nat.beq pc 20) (some (.iconst 1, 1)) none) (cond (Nat.ble pc 21) (cond (Nat.beq pc 21) (some (.if_icmp .ne 12, 3)) none) (cond (Nat.beq pc 24) (some (.aload_n 0, 1)) none))) (cond (Nat.ble pc 28) (cond (Nat.ble pc 25) (cond (Nat.beq pc 25) (some (.getfield 39, 3)) none) (cond (Nat.beq pc 28) (some (.iload_n 1, 1)) none)) (cond (Nat.ble pc 29) (cond (Nat.beq pc 29) (some (.iaload, 1)) none) (cond (Nat.beq pc 30) (some (.goto 9, 3)) none)))) (cond (Nat.ble pc 37) (cond (Nat.ble pc 33) (cond (Nat.beq pc 33) (some (.aload_n 0, 1)) none) (cond (Nat.ble pc 34) (cond (Nat.beq pc 34) (some (.getfield 42, 3)) none) (cond (Nat.beq pc 37) (some (.iload_n 1, 1)) none))) (cond (Nat.ble pc 39) (cond (Nat.ble pc 38) (cond (Nat.beq pc 38) (some (.iaload, 1)) none) (cond (Nat.beq pc 39) (some (.invokevirtual 183, 3)) none)) (cond (Nat.ble pc 42) (cond (Nat.beq pc 42) (some (.istore_n 3, 1)) none) (cond (Nat.beq pc 43) (some (.iload_n 3, 1)) none)))))) (cond (Nat.ble pc 63) (cond (Nat.ble pc 54) (cond (Nat.ble pc 48) (cond (Nat.ble pc 44) (cond (Nat.beq pc 44) (some (.iconst 2, 1)) none) (cond (Nat.ble pc 45) (cond (Nat.beq pc 45) (some (.if_icmp .ne 5, 3)) none) (cond (Nat.beq pc 48) (some (.iload_n 3, 1)) none))) (cond (Nat.ble pc 50) (cond (Nat.ble pc 49) (cond (Nat.beq pc 49) (some (.ireturn, 1)) none) (cond (Nat.beq pc 50) (some (.aload_n 0, 1)) none)) (cond (Nat.ble pc 51) (cond (Nat.beq pc 51) (some (.getfield 48, 3)) none) (cond (Nat.beq pc 54) (some (.iload_n 1, 1)) none)))) (cond (Nat.ble pc 57) (cond (Nat.ble pc 55) (cond (Nat.beq pc 55) (some (.dup2, 1)) none) (cond (Nat.ble pc 56) (cond (Nat.beq pc 56) (some (.iaload, 1)) none) (cond (Nat.beq pc 57) (some (.iload_n 3, 1)) none))) (cond (Nat.ble pc 59) (cond (Nat.ble pc 58) (cond (Nat.beq pc 58) (some (.iconst 1, 1)) none) (cond (Nat.beq pc 59) (some (.if_icmp .ne 7, 3)) none)) (cond (Nat.ble pc 62) (cond (Nat.beq pc 62) (some (.iload_n 2, 1)) none) (cond (Nat.beq pc 63) (some (.goto 4, 3)) none))))) (cond (Nat.ble pc 76) (cond (Nat.ble pc 68) (cond (Nat.ble pc 66) (cond (Nat.beq pc 66) (some (.iconst 0, 1)) none) (cond (Nat.ble pc 67) (cond (Nat.beq pc 67) (some (.ior, 1)) none) (cond (Nat.beq pc 68) (some (.iastore, 1)) none))) (cond (Nat.ble pc 72) (cond (Nat.ble pc 69) (cond (Nat.beq pc 69) (some (.iinc 2 1, 3)) none) (cond (Nat.beq pc 72) (some (.goto (-70), 3)) none)) (cond (Nat.ble pc 75) (cond (Nat.beq pc 75) (some (.aload_n 0, 1)) none) (cond (Nat.beq pc 76) (some (.getfield 48, 3)) none)))) (cond (Nat.ble pc 82) (cond (Nat.ble pc 80) (cond (Nat.ble pc 79) (cond (Nat.beq pc 79) (some (.iload_n 1, 1)) none) (cond (Nat.beq pc 80) (some (.iaload, 1)) none)) (cond (Nat.ble pc 81) (cond (Nat.beq pc 81) (some (.iconst 3, 1)) none) (cond (Nat.beq pc 82) (some (.if_icmp .ne 7, 3)) none))) (cond (Nat.ble pc 86) (cond (Nat.ble pc 85) (cond (Nat.beq pc 85) (some (.iconst 1, 1)) none) (cond (Nat.beq pc 86) (some (.goto 4, 3)) none)) (cond (Nat.ble pc 89) (cond (Nat.beq pc 89) (some (.iconst 0, 1)) none) (cond (Nat.beq pc 90) (some (.ireturn, 1)) none)))))))
set_option maxRecDepth 100000 in
theorem zd93_0 : (List.range' 0 62).all (fun pc => match zI93 pc with | some q => decide (decode (zCode 93) pc = .ok q) | none => true) = true := by decide +kernel
set_option maxRecDepth 100000 in
theorem zd93_1 : (List.range' 62 29).all (fun pc => match zI93 pc with | some q => decide (decode (zCode 93) pc = .ok q) | none => true) = true := by decide +kernel
theorem zJ93 {pc : Nat} {q : Jvm.ClassFile.Instr × Nat} (h : zI93 pc = some q) : decode (zCode 93) pc = .ok q := by
  have hb := (z_gd (n := 91) (pc := pc) h).1
  by_cases c0 : pc < 62
  · exact z_ck zd93_0 (by omega) (by omega) h
  exact z_ck zd93_1 (by omega) (by omega) h
def zI94 (pc : Nat) : Option (Jvm.ClassFile.Instr × Nat) := cond (Nat.ble 56 pc) none (cond (Nat.ble pc 28) (cond (Nat.ble pc 12) (cond (Nat.ble pc 5) (cond (Nat.ble pc 1) (cond (Nat.ble pc 0) (cond (Nat.beq pc 0) (some (.aload_n 0, 1)) none) (cond (Nat.beq pc 1) (some (.getfield 54, 3)) none)) (cond (Nat.ble pc 4) (cond (Nat.beq pc 4) (some (.iload_n 1, 1)) none) (cond (Nat.beq pc 5) (some (.laload, 1)) none))) (cond (Nat.ble pc 7) (cond (Nat.ble pc 6) (cond (Nat.beq pc 6) (some (.lconst 1, 1)) none) (cond (Nat.beq pc 7) (some (.lcmp, 1)) none)) (cond (Nat.ble pc 8) (cond (Nat.beq pc 8) (some (.ifCond .lt 46, 3)) none) (cond (Nat.ble pc 11) (cond (Nat.beq pc 11) (some (.aload_n 0, 1)) none) (cond (Nat.beq pc 12) (some (.aload_n 0, 1)) none))))) (cond (Nat.ble pc 21) (cond (Nat.ble pc 16) (cond (Nat.ble pc 13) (cond (Nat.beq pc 13) (some (.getfield 39, 3)) none) (cond (Nat.beq pc 16) (some (.iload_n 1, 1)) none)) (cond (Nat.ble pc 17) (cond (Nat.beq pc 17) (some (.iaload, 1)) none) (cond (Nat.ble pc 18) (cond (Nat.beq pc 18) (some (.invokevirtual 183, 3)) none) (cond (Nat.beq pc 21) (some (.istore_n 2, 1)) none)))) (cond (Nat.ble pc 23) (cond (Nat.ble pc 22) (cond (Nat.beq pc 22) (some (.iload_n 2, 1)) none) (cond (Nat.beq pc 23) (some (.iconst 1, 1)) none)) (cond (Nat.ble pc 24) (cond (Nat.beq pc 24) (some (.if_icmp .eq 5, 3)) none) (cond (Nat.ble pc 27) (cond (Nat.beq pc 27) (some (.iload_n 2, 1)) none) (cond (Nat.beq pc 28) (some (.ireturn, 1)) none)))))) (cond (Nat.ble pc 39) (cond (Nat.ble pc 34) (cond (Nat.ble pc 30) (cond (Nat.ble pc 29) (cond (Nat.beq pc 29) (some (.aload_n 0, 1)) none) (cond (Nat.beq pc 30) (some (.getfield 54, 3)) none)) (cond (Nat.ble pc 33) (cond (Nat.beq pc 33) (some (.iload_n 1, 1)) none) (cond (Nat.beq pc 34) (some (.dup2, 1)) none))) (cond (Nat.ble pc 36) (cond (Nat.ble pc 35) (cond (Nat.beq pc 35) (some (.laload, 1)) none) (cond (Nat.beq pc 36) (some (.lconst 1, 1)) none)) (cond (Nat.ble pc 37) (cond (Nat.beq pc 37) (some (.lsub, 1)) none) (cond (Nat.ble pc 38) (cond (Nat.beq pc 38) (some (.lastore, 1)) none) (cond (Nat.beq pc 39) (some (.aload_n 0, 1)) none))))) (cond (Nat.ble pc 48) (cond (Nat.ble pc 43) (cond (Nat.ble pc 40) (cond (Nat.beq pc 40) (some (.getfield 45, 3)) none) (cond (Nat.beq pc 43) (some (.aload_n 0, 1)) none)) (cond (Nat.ble pc 44) (cond (Nat.beq pc 44) (some (.getfield 39, 3)) none) (cond (Nat.ble pc 47) (cond (Nat.beq pc 47) (some (.iload_n 1, 1)) none) (cond (Nat.beq pc 48) (some (.iaload, 1)) none)))) (cond (Nat.ble pc 50) (cond (Nat.ble pc 49) (cond (Nat.beq pc 49) (some (.iconst 0, 1)) none) (cond (Nat.beq pc 50) (some (.bastore, 1)) none)) (cond (Nat.ble pc 51) (cond (Nat.beq pc 51) (some (.goto (-51), 3)) none) (cond (Nat.ble pc 54) (cond (Nat.beq pc 54) (some (.iconst 1, 1)) none) (cond (Nat.beq pc 55) (some (.ireturn, 1)) none)))))))
set_option maxRecDepth 100000 in
theorem zd94_0 : (List.range' 0 56).all (fun pc => match zI94 pc with | some q => decide (decode (zCode 94) pc = .ok q) | none => true) = true := by decide +kernel
theorem zJ94 {pc : Nat} {q : Jvm.ClassFile.Instr × Nat} (h : zI94 pc = some q) : decode (zCode 94) pc = .ok q := by
  have hb := (z_gd (n := 56) (pc := pc) h).1
  exact z_ck zd94_0 (by omega) (by omega) h
def zI95 (pc : Nat) : Option (Jvm.ClassFile.Instr × Nat) := cond (Nat.ble 152 pc) none (cond (Nat.ble pc 70) (cond (Nat.ble pc 33) (cond (Nat.ble pc 17) (cond (Nat.ble pc 9) (cond (Nat.ble pc 4) (cond (Nat.ble pc 0) (cond (Nat.beq pc 0) (some (.aload_n 0, 1)) none) (cond (Nat.ble pc 1) (cond (Nat.beq pc 1) (some (.getfield 143, 3)) none) (cond (Nat.beq pc 4) (some (.aload_n 0, 1)) none))) (cond (Nat.ble pc 5) (cond (Nat.beq pc 5) (some (.getfield 51, 3)) none) (cond (Nat.ble pc 8) (cond (Nat.beq pc 8) (some (.iload_n 1, 1)) none) (cond (Nat.beq pc 9) (some (.laload, 1)) none)))) (cond (Nat.ble pc 12) (cond (Nat.ble pc 10) (cond (Nat.beq pc 10) (some (.lsub, 1)) none) (cond (Nat.ble pc 11) (cond (Nat.beq pc 11) (some (.lstore_n 2, 1)) none) (cond (Nat.beq pc 12) (some (.aload_n 0, 1)) none))) (cond (Nat.ble pc 13) (cond (Nat.beq pc 13) (some (.getfield 48, 3)) none) (cond (Nat.ble pc 16) (cond (Nat.beq pc 16) (some (.iload_n 1, 1)) none) (cond (Nat.beq pc 17) (some (.iaload, 1)) none))))) (cond (Nat.ble pc 25) (cond (Nat.ble pc 22) (cond (Nat.ble pc 18) (cond (Nat.beq pc 18) (some (.iconst 1, 1)) none) (cond (Nat.ble pc 19) (cond (Nat.beq pc 19) (some (.if_icmp .ne 5, 3)) none) (cond (Nat.beq pc 22) (some (.iconst 1, 1)) none))) (cond (Nat.ble pc 23) (cond (Nat.beq pc 23) (some (.ireturn, 1)) none) (cond (Nat.ble pc 24) (cond (Nat.beq pc 24) (some (.lload_n 2, 1)) none) (cond (Nat.beq pc 25) (some (.lconst 0, 1)) none)))) (cond (Nat.ble pc 30) (cond (Nat.ble pc 26) (cond (Nat.beq pc 26) (some (.lcmp, 1)) none) (cond (Nat.ble pc 27) (cond (Nat.beq pc 27) (some (.ifCond .ne 5, 3)) none) (cond (Nat.beq pc 30) (some (.iconst 0, 1)) none))) (cond (Nat.ble pc 31) (cond (Nat.beq pc 31) (some (.ireturn, 1)) none) (cond (Nat.ble pc 32) (cond (Nat.beq pc 32) (some (.lload_n 2, 1)) none) (cond (Nat.beq pc 33) (some (.aload_n 0, 1)) none)))))) (cond (Nat.ble pc 54) (cond (Nat.ble pc 43) (cond (Nat.ble pc 38) (cond (Nat.ble pc 34) (cond (Nat.beq pc 34) (some (.getfield 54, 3)) none) (cond (Nat.ble pc 37) (cond (Nat.beq pc 37) (some (.iload_n 1, 1)) none) (cond (Nat.beq pc 38) (some (.laload, 1)) none))) (cond (Nat.ble pc 39) (cond (Nat.beq pc 39) (some (.lcmp, 1)) none) (cond (Nat.ble pc 40) (cond (Nat.beq pc 40) (some (.ifCond .lt 7, 3)) none) (cond (Nat.beq pc 43) (some (.iconst 1, 1)) none)))) (cond (Nat.ble pc 48) (cond (Nat.ble pc 44) (cond (Nat.beq pc 44) (some (.goto 4, 3)) none) (cond (Nat.ble pc 47) (cond (Nat.beq pc 47) (some (.iconst 0, 1)) none) (cond (Nat.beq pc 48) (some (.istore 4, 2)) none))) (cond (Nat.ble pc 50) (cond (Nat.beq pc 50) (some (.aload_n 0, 1)) none) (cond (Nat.ble pc 51) (cond (Nat.beq pc 51) (some (.getfield 57, 3)) none) (cond (Nat.beq pc 54) (some (.iload_n 1, 1)) none))))) (cond (Nat.ble pc 62) (cond (Nat.ble pc 57) (cond (Nat.ble pc 55) (cond (Nat.beq pc 55) (some (.laload, 1)) none) (cond (Nat.ble pc 56) (cond (Nat.beq pc 56) (some (.aload_n 0, 1)) none) (cond (Nat.beq pc 57) (some (.getfield 60, 3)) none))) (cond (Nat.ble pc 60) (cond (Nat.beq pc 60) (some (.iload_n 1, 1)) none) (cond (Nat.ble pc 61) (cond (Nat.beq pc 61) (some (.laload, 1)) none) (cond (Nat.beq pc 62) (some (.lsub, 1)) none)))) (cond (Nat.ble pc 65) (cond (Nat.ble pc 63) (cond (Nat.beq pc 63) (some (.lload_n 2, 1)) none) (cond (Nat.ble pc 64) (cond (Nat.beq pc 64) (some (.lmul, 1)) none) (cond (Nat.beq pc 65) (some (.lstore 5, 2)) none))) (cond (Nat.ble pc 67) (cond (Nat.beq pc 67) (some (.lload 5, 2)) none) (cond (Nat.ble pc 69) (cond (Nat.beq pc 69) (some (.aload_n 0, 1)) none) (cond (Nat.beq pc 70) (some (.getfield 54, 3)) none))))))) (cond (Nat.ble pc 110) (cond (Nat.ble pc 89) (cond (Nat.ble pc 80) (cond (Nat.ble pc 75) (cond (Nat.ble pc 73) (cond (Nat.beq pc 73) (some (.iload_n 1, 1)) none) (cond (Nat.ble pc 74) (cond (Nat.beq pc 74) (some (.laload, 1)) none) (cond (Nat.beq pc 75) (some (.ldiv, 1)) none))) (cond (Nat.ble pc 76) (cond (Nat.beq pc 76) (some (.lstore 7, 2)) none) (cond (Nat.ble pc 78) (cond (Nat.beq pc 78) (some (.lload 7, 2)) none) (cond (Nat.beq pc 80) (some (.lload 5, 2)) none)))) (cond (Nat.ble pc 86) (cond (Nat.ble pc 82) (cond (Nat.beq pc 82) (some (.aload_n 0, 1)) none) (cond (Nat.ble pc 83) (cond (Nat.beq pc 83) (some (.getfield 54, 3)) none) (cond (Nat.beq pc 86) (some (.iload_n 1, 1)) none))) (cond (Nat.ble pc 87) (cond (Nat.beq pc 87) (some (.laload, 1)) none) (cond (Nat.ble pc 88) (cond (Nat.beq pc 88) (some (.lrem, 1)) none) (cond (Nat.beq pc 89) (some (.lconst 0, 1)) none))))) (cond (Nat.ble pc 99) (cond (Nat.ble pc 94) (cond (Nat.ble pc 90) (cond (Nat.beq pc 90) (some (.lcmp, 1)) none) (cond (Nat.ble pc 91) (cond (Nat.beq pc 91) (some (.ifCond .ge 7, 3)) none) (cond (Nat.beq pc 94) (some (.lconst 1, 1)) none))) (cond (Nat.ble pc 95) (cond (Nat.beq pc 95) (some (.goto 4, 3)) none) (cond (Nat.ble pc 98) (cond (Nat.beq pc 98) (some (.lconst 0, 1)) none) (cond (Nat.beq pc 99) (some (.lsub, 1)) none)))) (cond (Nat.ble pc 103) (cond (Nat.ble pc 100) (cond (Nat.beq pc 100) (some (.lstore 7, 2)) none) (cond (Nat.ble pc 102) (cond (Nat.beq pc 102) (some (.aload_n 0, 1)) none) (cond (Nat.beq pc 103) (some (.getfield 69, 3)) none))) (cond (Nat.ble pc 106) (cond (Nat.beq pc 106) (some (.aload_n 0, 1)) none) (cond (Nat.ble pc 107) (cond (Nat.beq pc 107) (some (.getfield 13, 3)) none) (cond (Nat.beq pc 110) (some (.aload_n 0, 1)) none)))))) (cond (Nat.ble pc 131) (cond (Nat.ble pc 119) (cond (Nat.ble pc 115) (cond (Nat.ble pc 111) (cond (Nat.beq pc 111) (some (.getfield 36, 3)) none) (cond (Nat.ble pc 114) (cond (Nat.beq pc 114) (some (.iload_n 1, 1)) none) (cond (Nat.beq pc 115) (some (.iaload, 1)) none))) (cond (Nat.ble pc 116) (cond (Nat.beq pc 116) (some (.iaload, 1)) none) (cond (Nat.ble pc 117) (cond (Nat.beq pc 117) (some (.iload 4, 2)) none) (cond (Nat.beq pc 119) (some (.ifCond .eq 12, 3)) none)))) (cond (Nat.ble pc 126) (cond (Nat.ble pc 122) (cond (Nat.beq pc 122) (some (.aload_n 0, 1)) none) (cond (Nat.ble pc 123) (cond (Nat.beq pc 123) (some (.getfield 57, 3)) none) (cond (Nat.beq pc 126) (some (.iload_n 1, 1)) none))) (cond (Nat.ble pc 127) (cond (Nat.beq pc 127) (some (.laload, 1)) none) (cond (Nat.ble pc 128) (cond (Nat.beq pc 128) (some (.goto 12, 3)) none) (cond (Nat.beq pc 131) (some (.aload_n 0, 1)) none))))) (cond (Nat.ble pc 140) (cond (Nat.ble pc 136) (cond (Nat.ble pc 132) (cond (Nat.beq pc 132) (some (.getfield 60, 3)) none) (cond (Nat.ble pc 135) (cond (Nat.beq pc 135) (some (.iload_n 1, 1)) none) (cond (Nat.beq pc 136) (some (.laload, 1)) none))) (cond (Nat.ble pc 137) (cond (Nat.beq pc 137) (some (.lload 7, 2)) none) (cond (Nat.ble pc 139) (cond (Nat.beq pc 139) (some (.ladd, 1)) none) (cond (Nat.beq pc 140) (some (.lastore, 1)) none)))) (cond (Nat.ble pc 146) (cond (Nat.ble pc 141) (cond (Nat.beq pc 141) (some (.iload 4, 2)) none) (cond (Nat.ble pc 143) (cond (Nat.beq pc 143) (some (.ifCond .eq 7, 3)) none) (cond (Nat.beq pc 146) (some (.iconst 1, 1)) none))) (cond (Nat.ble pc 147) (cond (Nat.beq pc 147) (some (.goto 4, 3)) none) (cond (Nat.ble pc 150) (cond (Nat.beq pc 150) (some (.iconst 0, 1)) none) (cond (Nat.beq pc 151) (some (.ireturn, 1)) none))))))))
set_option maxRecDepth 100000 in
theorem zd95_0 : (List.range' 0 61).all (fun pc => match zI95 pc with | some q => decide (decode (zCode 95) pc = .ok q) | none => true) = true := by decide +kernel
set_option maxRecDepth 100000 in
theorem zd95_1 : (List.range' 61 65).all (fun pc => match zI95 pc with | some q => decide (decode (zCode 95) pc = .ok q) | none => true) = true := by decide +kernel
set_option maxRecDepth 100000 in
theorem zd95_2 : (List.range' 126 26).all (fun pc => match zI95 pc with | some q => decide (decode (zCode 95) pc = .ok q) | none => true) = true := by decide +kernel
theorem zJ95 {pc : Nat} {q : Jvm.ClassFile.Instr × Nat} (h : zI95 pc = some q) : decode (zCode 95) pc = .ok q := by
  have hb := (z_gd (n := 152) (pc := pc) h).1
  by_cases c0 : pc < 61
  · exact z_ck zd95_0 (by omega) (by omega) h
  by_cases c1 : pc < 126
  · exact z_ck zd95_1 (by omega) (by omega) h
  exact z_ck zd95_2 (by omega) (by omega) h
def zI96 (pc : Nat) : Option (Jvm.ClassFile.Instr × Nat) := cond (Nat.ble 62 pc) none (cond (Nat.ble pc 31) (cond (Nat.ble pc 15) (cond (Nat.ble pc 6) (cond (Nat.ble pc 1) (cond (Nat.ble pc 0) (cond (Nat.beq pc 0) (some (.aload_n 0, 1)) none) (cond (Nat.beq pc 1) (some (.getfield 48, 3)) none)) (cond (Nat.ble pc 4) (cond (Nat.beq pc 4) (some (.iload_n 1, 1)) none) (cond (Nat.ble pc 5) (cond (Nat.beq pc 5) (some (.iaload, 1)) none) (cond (Nat.beq pc 6) (some (.ifCond .ne 28, 3)) none)))) (cond (Nat.ble pc 10) (cond (Nat.ble pc 9) (cond (Nat.beq pc 9) (some (.aload_n 0, 1)) none) (cond (Nat.beq pc 10) (some (.aload_n 0, 1)) none)) (cond (Nat.ble pc 11) (cond (Nat.beq pc 11) (some (.getfield 39, 3)) none) (cond (Nat.ble pc 14) (cond (Nat.beq pc 14) (some (.iload_n 1, 1)) none) (cond (Nat.beq pc 15) (some (.iaload, 1)) none))))) (cond (Nat.ble pc 22) (cond (Nat.ble pc 19) (cond (Nat.ble pc 16) (cond (Nat.beq pc 16) (some (.invokevirtual 183, 3)) none) (cond (Nat.beq pc 19) (some (.istore_n 2, 1)) none)) (cond (Nat.ble pc 20) (cond (Nat.beq pc 20) (some (.iload_n 2, 1)) none) (cond (Nat.ble pc 21) (cond (Nat.beq pc 21) (some (.iconst 1, 1)) none) (cond (Nat.beq pc 22) (some (.if_icmp .eq 5, 3)) none)))) (cond (Nat.ble pc 26) (cond (Nat.ble pc 25) (cond (Nat.beq pc 25) (some (.iload_n 2, 1)) none) (cond (Nat.beq pc 26) (some (.ireturn, 1)) none)) (cond (Nat.ble pc 27) (cond (Nat.beq pc 27) (some (.aload_n 0, 1)) none) (cond (Nat.ble pc 28) (cond (Nat.beq pc 28) (some (.getfield 48, 3)) none) (cond (Nat.beq pc 31) (some (.iload_n 1, 1)) none)))))) (cond (Nat.ble pc 45) (cond (Nat.ble pc 36) (cond (Nat.ble pc 33) (cond (Nat.ble pc 32) (cond (Nat.beq pc 32) (some (.iconst 1, 1)) none) (cond (Nat.beq pc 33) (some (.iastore, 1)) none)) (cond (Nat.ble pc 34) (cond (Nat.beq pc 34) (some (.aload_n 0, 1)) none) (cond (Nat.ble pc 35) (cond (Nat.beq pc 35) (some (.aload_n 0, 1)) none) (cond (Nat.beq pc 36) (some (.getfield 42, 3)) none)))) (cond (Nat.ble pc 40) (cond (Nat.ble pc 39) (cond (Nat.beq pc 39) (some (.iload_n 1, 1)) none) (cond (Nat.beq pc 40) (some (.iaload, 1)) none)) (cond (Nat.ble pc 41) (cond (Nat.beq pc 41) (some (.invokevirtual 183, 3)) none) (cond (Nat.ble pc 44) (cond (Nat.beq pc 44) (some (.istore_n 2, 1)) none) (cond (Nat.beq pc 45) (some (.iload_n 2, 1)) none))))) (cond (Nat.ble pc 52) (cond (Nat.ble pc 47) (cond (Nat.ble pc 46) (cond (Nat.beq pc 46) (some (.iconst 1, 1)) none) (cond (Nat.beq pc 47) (some (.if_icmp .ne 13, 3)) none)) (cond (Nat.ble pc 50) (cond (Nat.beq pc 50) (some (.aload_n 0, 1)) none) (cond (Nat.ble pc 51) (cond (Nat.beq pc 51) (some (.aload_n 0, 1)) none) (cond (Nat.beq pc 52) (some (.getfield 36, 3)) none)))) (cond (Nat.ble pc 56) (cond (Nat.ble pc 55) (cond (Nat.beq pc 55) (some (.iload_n 1, 1)) none) (cond (Nat.beq pc 56) (some (.iaload, 1)) none)) (cond (Nat.ble pc 57) (cond (Nat.beq pc 57) (some (.invokevirtual 195, 3)) none) (cond (Nat.ble pc 60) (cond (Nat.beq pc 60) (some (.iload_n 2, 1)) none) (cond (Nat.beq pc 61) (some (.ireturn, 1)) none)))))))
set_option maxRecDepth 100000 in
theorem zd96_0 : (List.range' 0 62).all (fun pc => match zI96 pc with | some q => decide (decode (zCode 96) pc = .ok q) | none => true) = true := by decide +kernel
theorem zJ96 {pc : Nat} {q : Jvm.ClassFile.Instr × Nat} (h : zI96 pc = some q) : decode (zCode 96) pc = .ok q := by
  have hb := (z_gd (n := 62) (pc := pc) h).1
  exact z_ck zd96_0 (by omega) (by omega) h
def zI97 (pc : Nat) : Option (Jvm.ClassFile.Instr × Nat) := cond (Nat.ble 31 pc) none (cond (Nat.ble pc 15) (cond (Nat.ble pc 7) (cond (Nat.ble pc 1) (cond (Nat.ble pc 0) (cond (Nat.beq pc 0) (some (.aload_n 0, 1)) none) (cond (Nat.beq pc 1) (some (.getfield 150, 3)) none)) (cond (Nat.ble pc 4) (cond (Nat.beq pc 4) (some (.sipush 200, 3)) none) (cond (Nat.beq pc 7) (some (.if_icmp .ge 13, 3)) none))) (cond (Nat.ble pc 11) (cond (Nat.ble pc 10) (cond (Nat.beq pc 10) (some (.aload_n 0, 1)) none) (cond (Nat.beq pc 11) (some (.getfield 91, 3)) none)) (cond (Nat.ble pc 14) (cond (Nat.beq pc 14) (some (.aload_n 0, 1)) none) (cond (Nat.beq pc 15) (some (.getfield 150, 3)) none)))) (cond (Nat.ble pc 21) (cond (Nat.ble pc 19) (cond (Nat.ble pc 18) (cond (Nat.beq pc 18) (some (.iload_n 1, 1)) none) (cond (Nat.beq pc 19) (some (.iastore, 1)) none)) (cond (Nat.ble pc 20) (cond (Nat.beq pc 20) (some (.aload_n 0, 1)) none) (cond (Nat.beq pc 21) (some (.dup, 1)) none))) (cond (Nat.ble pc 25) (cond (Nat.ble pc 22) (cond (Nat.beq pc 22) (some (.getfield 150, 3)) none) (cond (Nat.beq pc 25) (some (.iconst 1, 1)) none)) (cond (Nat.ble pc 26) (cond (Nat.beq pc 26) (some (.iadd, 1)) none) (cond (Nat.ble pc 27) (cond (Nat.beq pc 27) (some (.putfield 150, 3)) none) (cond (Nat.beq pc 30) (some (.return_, 1)) none))))))
set_option maxRecDepth 100000 in
theorem zd97_0 : (List.range' 0 31).all (fun pc => match zI97 pc with | some q => decide (decode (zCode 97) pc = .ok q) | none => true) = true := by decide +kernel
theorem zJ97 {pc : Nat} {q : Jvm.ClassFile.Instr × Nat} (h : zI97 pc = some q) : decode (zCode 97) pc = .ok q := by
  have hb := (z_gd (n := 31) (pc := pc) h).1
  exact z_ck zd97_0 (by omega) (by omega) h
def zI98 (pc : Nat) : Option (Jvm.ClassFile.Instr × Nat) := cond (Nat.ble 49 pc) none (cond (Nat.ble pc 24) (cond (Nat.ble pc 9) (cond (Nat.ble pc 4) (cond (Nat.ble pc 0) (cond (Nat.beq pc 0) (some (.iload_n 1, 1)) none) (cond (Nat.ble pc 1) (cond (Nat.beq pc 1) (some (.invokestatic 113, 3)) none) (cond (Nat.beq pc 4) (some (.ifCond .ne 5, 3)) none))) (cond (Nat.ble pc 7) (cond (Nat.beq pc 7) (some (.lconst 0, 1)) none) (cond (Nat.ble pc 8) (cond (Nat.beq pc 8) (some (.lreturn, 1)) none) (cond (Nat.beq pc 9) (some (.aload_n 0, 1)) none)))) (cond (Nat.ble pc 16) (cond (Nat.ble pc 10) (cond (Nat.beq pc 10) (some (.getfield 136, 3)) none) (cond (Nat.ble pc 13) (cond (Nat.beq pc 13) (some (.ifCond .eq 29, 3)) none) (cond (Nat.beq pc 16) (some (.aload_n 0, 1)) none))) (cond (Nat.ble pc 20) (cond (Nat.ble pc 17) (cond (Nat.beq pc 17) (some (.getfield 140, 3)) none) (cond (Nat.beq pc 20) (some (.iconst 2, 1)) none)) (cond (Nat.ble pc 21) (cond (Nat.beq pc 21) (some (.if_icmp .ne 21, 3)) none) (cond (Nat.beq pc 24) (some (.aload_n 0, 1)) none))))) (cond (Nat.ble pc 37) (cond (Nat.ble pc 29) (cond (Nat.ble pc 25) (cond (Nat.beq pc 25) (some (.getfield 75, 3)) none) (cond (Nat.ble pc 28) (cond (Nat.beq pc 28) (some (.iload_n 1, 1)) none) (cond (Nat.beq pc 29) (some (.baload, 1)) none))) (cond (Nat.ble pc 33) (cond (Nat.ble pc 30) (cond (Nat.beq pc 30) (some (.ifCond .eq 12, 3)) none) (cond (Nat.beq pc 33) (some (.aload_n 0, 1)) none)) (cond (Nat.ble pc 34) (cond (Nat.beq pc 34) (some (.getfield 72, 3)) none) (cond (Nat.beq pc 37) (some (.iload_n 1, 1)) none)))) (cond (Nat.ble pc 42) (cond (Nat.ble pc 38) (cond (Nat.beq pc 38) (some (.laload, 1)) none) (cond (Nat.ble pc 39) (cond (Nat.beq pc 39) (some (.goto 9, 3)) none) (cond (Nat.beq pc 42) (some (.aload_n 0, 1)) none))) (cond (Nat.ble pc 46) (cond (Nat.ble pc 43) (cond (Nat.beq pc 43) (some (.getfield 69, 3)) none) (cond (Nat.beq pc 46) (some (.iload_n 1, 1)) none)) (cond (Nat.ble pc 47) (cond (Nat.beq pc 47) (some (.laload, 1)) none) (cond (Nat.beq pc 48) (some (.lreturn, 1)) none))))))
set_option maxRecDepth 100000 in
theorem zd98_0 : (List.range' 0 49).all (fun pc => match zI98 pc with | some q => decide (decode (zCode 98) pc = .ok q) | none => true) = true := by decide +kernel
theorem zJ98 {pc : Nat} {q : Jvm.ClassFile.Instr × Nat} (h : zI98 pc = some q) : decode (zCode 98) pc = .ok q := by
  have hb := (z_gd (n := 49) (pc := pc) h).1
  exact z_ck zd98_0 (by omega) (by omega) h
def zI99 (pc : Nat) : Option (Jvm.ClassFile.Instr × Nat) := cond (Nat.ble 40 pc) none (cond (Nat.ble pc 19) (cond (Nat.ble pc 11) (cond (Nat.ble pc 4) (cond (Nat.ble pc 0) (cond (Nat.beq pc 0) (some (.aload_n 0, 1)) none) (cond (Nat.ble pc 1) (cond (Nat.beq pc 1) (some (.invokevirtual 212, 3)) none) (cond (Nat.beq pc 4) (some (.ifCond .eq 7, 3)) none))) (cond (Nat.ble pc 7) (cond (Nat.beq pc 7) (some (.iload_n 1, 1)) none) (cond (Nat.ble pc 8) (cond (Nat.beq pc 8) (some (.ifCond .ge 5, 3)) none) (cond (Nat.beq pc 11) (some (.iconst (-1), 1)) none)))) (cond (Nat.ble pc 14) (cond (Nat.ble pc 12) (cond (Nat.beq pc 12) (some (.ireturn, 1)) none) (cond (Nat.ble pc 13) (cond (Nat.beq pc 13) (some (.aload_n 0, 1)) none) (cond (Nat.beq pc 14) (some (.iload_n 1, 1)) none))) (cond (Nat.ble pc 15) (cond (Nat.beq pc 15) (some (.putfield 209, 3)) none) (cond (Nat.ble pc 18) (cond (Nat.beq pc 18) (some (.aload_n 0, 1)) none) (cond (Nat.beq pc 19) (some (.iconst 0, 1)) none))))) (cond (Nat.ble pc 29) (cond (Nat.ble pc 24) (cond (Nat.ble pc 20) (cond (Nat.beq pc 20) (some (.iconst 0, 1)) none) (cond (Nat.ble pc 21) (cond (Nat.beq pc 21) (some (.invokevirtual 205, 3)) none) (cond (Nat.beq pc 24) (some (.istore_n 2, 1)) none))) (cond (Nat.ble pc 25) (cond (Nat.beq pc 25) (some (.iload_n 2, 1)) none) (cond (Nat.ble pc 26) (cond (Nat.beq pc 26) (some (.ifCond .ge 7, 3)) none) (cond (Nat.beq pc 29) (some (.iconst (-1), 1)) none)))) (cond (Nat.ble pc 34) (cond (Nat.ble pc 30) (cond (Nat.beq pc 30) (some (.goto 9, 3)) none) (cond (Nat.ble pc 33) (cond (Nat.beq pc 33) (some (.aload_n 0, 1)) none) (cond (Nat.beq pc 34) (some (.getfield 36, 3)) none))) (cond (Nat.ble pc 37) (cond (Nat.beq pc 37) (some (.iload_n 2, 1)) none) (cond (Nat.ble pc 38) (cond (Nat.beq pc 38) (some (.iaload, 1)) none) (cond (Nat.beq pc 39) (some (.ireturn, 1)) none))))))
set_option maxRecDepth 100000 in
theorem zd99_0 : (List.range' 0 40).all (fun pc => match zI99 pc with | some q => decide (decode (zCode 99) pc = .ok q) | none => true) = true := by decide +kernel
theorem zJ99 {pc : Nat} {q : Jvm.ClassFile.Instr × Nat} (h : zI99 pc = some q) : decode (zCode 99) pc = .ok q := by
  have hb := (z_gd (n := 40) (pc := pc) h).1
  exact z_ck zd99_0 (by omega) (by omega) h
def zI100 (pc : Nat) : Option (Jvm.ClassFile.Instr × Nat) := cond (Nat.ble 29 pc) none (cond (Nat.ble pc 12) (cond (Nat.ble pc 4) (cond (Nat.ble pc 0) (cond (Nat.beq pc 0) (some (.aload_n 0, 1)) none) (cond (Nat.ble pc 1) (cond (Nat.beq pc 1) (some (.getfield 136, 3)) none) (cond (Nat.beq pc 4) (some (.ifCond .eq 23, 3)) none))) (cond (Nat.ble pc 8) (cond (Nat.ble pc 7) (cond (Nat.beq pc 7) (some (.aload_n 0, 1)) none) (cond (Nat.beq pc 8) (some (.getfield 140, 3)) none)) (cond (Nat.ble pc 11) (cond (Nat.beq pc 11) (some (.iconst 1, 1)) none) (cond (Nat.beq pc 12) (some (.if_icmp .eq 15, 3)) none)))) (cond (Nat.ble pc 20) (cond (Nat.ble pc 16) (cond (Nat.ble pc 15) (cond (Nat.beq pc 15) (some (.aload_n 0, 1)) none) (cond (Nat.beq pc 16) (some (.getfield 140, 3)) none)) (cond (Nat.ble pc 19) (cond (Nat.beq pc 19) (some (.iconst 3, 1)) none) (cond (Nat.beq pc 20) (some (.if_icmp .eq 7, 3)) none))) (cond (Nat.ble pc 24) (cond (Nat.ble pc 23) (cond (Nat.beq pc 23) (some (.iconst 1, 1)) none) (cond (Nat.beq pc 24) (some (.goto 4, 3)) none)) (cond (Nat.ble pc 27) (cond (Nat.beq pc 27) (some (.iconst 0, 1)) none) (cond (Nat.beq pc 28) (some (.ireturn, 1)) none)))))
set_option maxRecDepth 100000 in
theorem zd100_0 : (List.range' 0 29).all (fun pc => match zI100 pc with | some q => decide (decode (zCode 100) pc = .ok q) | none => true) = true := by decide +kernel
theorem zJ100 {pc : Nat} {q : Jvm.ClassFile.Instr × Nat} (h : zI100 pc = some q) : decode (zCode 100) pc = .ok q := by
  have hb := (z_gd (n := 29) (pc := pc) h).1
  exact z_ck zd100_0 (by omega) (by omega) h
def zI101 (pc : Nat) : Option (Jvm.ClassFile.Instr × Nat) := cond (Nat.ble 271 pc) none (cond (Nat.ble pc 129) (cond (Nat.ble pc 62) (cond (Nat.ble pc 29) (cond (Nat.ble pc 12) (cond (Nat.ble pc 5) (cond (Nat.ble pc 1) (cond (Nat.ble pc 0) (cond (Nat.beq pc 0) (some (.aload_n 0, 1)) none) (cond (Nat.beq pc 1) (some (.getfield 45, 3)) none)) (cond (Nat.ble pc 4) (cond (Nat.beq pc 4) (some (.iload_n 1, 1)) none) (cond (Nat.beq pc 5) (some (.baload, 1)) none))) (cond (Nat.ble pc 9) (cond (Nat.ble pc 6) (cond (Nat.beq pc 6) (some (.ifCond .ne 5, 3)) none) (cond (Nat.beq pc 9) (some (.iconst (-1), 1)) none)) (cond (Nat.ble pc 10) (cond (Nat.beq pc 10) (some (.ireturn, 1)) none) (cond (Nat.ble pc 11) (cond (Nat.beq pc 11) (some (.aload_n 0, 1)) none) (cond (Nat.beq pc 12) (some (.getfield 9, 3)) none))))) (cond (Nat.ble pc 21) (cond (Nat.ble pc 16) (cond (Nat.ble pc 15) (cond (Nat.beq pc 15) (some (.aload_n 0, 1)) none) (cond (Nat.beq pc 16) (some (.getfield 36, 3)) none)) (cond (Nat.ble pc 19) (cond (Nat.beq pc 19) (some (.iload_n 1, 1)) none) (cond (Nat.ble pc 20) (cond (Nat.beq pc 20) (some (.iaload, 1)) none) (cond (Nat.beq pc 21) (some (.iaload, 1)) none)))) (cond (Nat.ble pc 23) (cond (Nat.ble pc 22) (cond (Nat.beq pc 22) (some (.istore_n 3, 1)) none) (cond (Nat.beq pc 23) (some (.iload_n 3, 1)) none)) (cond (Nat.ble pc 24) (cond (Nat.beq pc 24) (some (.bipush 15, 2)) none) (cond (Nat.ble pc 26) (cond (Nat.beq pc 26) (some (.if_icmp .ne 64, 3)) none) (cond (Nat.beq pc 29) (some (.aload_n 0, 1)) none)))))) (cond (Nat.ble pc 42) (cond (Nat.ble pc 35) (cond (Nat.ble pc 33) (cond (Nat.ble pc 30) (cond (Nat.beq pc 30) (some (.getfield 48, 3)) none) (cond (Nat.beq pc 33) (some (.iload_n 1, 1)) none)) (cond (Nat.ble pc 34) (cond (Nat.beq pc 34) (some (.iaload, 1)) none) (cond (Nat.beq pc 35) (some (.iconst 1, 1)) none))) (cond (Nat.ble pc 37) (cond (Nat.ble pc 36) (cond (Nat.beq pc 36) (some (.iand, 1)) none) (cond (Nat.beq pc 37) (some (.ifCond .ne 17, 3)) none)) (cond (Nat.ble pc 40) (cond (Nat.beq pc 40) (some (.aload_n 0, 1)) none) (cond (Nat.ble pc 41) (cond (Nat.beq pc 41) (some (.aload_n 0, 1)) none) (cond (Nat.beq pc 42) (some (.getfield 39, 3)) none))))) (cond (Nat.ble pc 51) (cond (Nat.ble pc 46) (cond (Nat.ble pc 45) (cond (Nat.beq pc 45) (some (.iload_n 1, 1)) none) (cond (Nat.beq pc 46) (some (.iaload, 1)) none)) (cond (Nat.ble pc 47) (cond (Nat.beq pc 47) (some (.iload_n 2, 1)) none) (cond (Nat.ble pc 48) (cond (Nat.beq pc 48) (some (.invokevirtual 205, 3)) none) (cond (Nat.beq pc 51) (some (.goto 4, 3)) none)))) (cond (Nat.ble pc 55) (cond (Nat.ble pc 54) (cond (Nat.beq pc 54) (some (.iconst (-1), 1)) none) (cond (Nat.beq pc 55) (some (.istore 4, 2)) none)) (cond (Nat.ble pc 57) (cond (Nat.beq pc 57) (some (.iload 4, 2)) none) (cond (Nat.ble pc 59) (cond (Nat.beq pc 59) (some (.ifCond .ge 14, 3)) none) (cond (Nat.beq pc 62) (some (.aload_n 0, 1)) none))))))) (cond (Nat.ble pc 93) (cond (Nat.ble pc 78) (cond (Nat.ble pc 68) (cond (Nat.ble pc 66) (cond (Nat.ble pc 63) (cond (Nat.beq pc 63) (some (.getfield 48, 3)) none) (cond (Nat.beq pc 66) (some (.iload_n 1, 1)) none)) (cond (Nat.ble pc 67) (cond (Nat.beq pc 67) (some (.iaload, 1)) none) (cond (Nat.beq pc 68) (some (.iconst 2, 1)) none))) (cond (Nat.ble pc 70) (cond (Nat.ble pc 69) (cond (Nat.beq pc 69) (some (.iand, 1)) none) (cond (Nat.beq pc 70) (some (.ifCond .eq 8, 3)) none)) (cond (Nat.ble pc 73) (cond (Nat.beq pc 73) (some (.iload 4, 2)) none) (cond (Nat.ble pc 75) (cond (Nat.beq pc 75) (some (.goto 14, 3)) none) (cond (Nat.beq pc 78) (some (.aload_n 0, 1)) none))))) (cond (Nat.ble pc 85) (cond (Nat.ble pc 80) (cond (Nat.ble pc 79) (cond (Nat.beq pc 79) (some (.aload_n 0, 1)) none) (cond (Nat.beq pc 80) (some (.getfield 42, 3)) none)) (cond (Nat.ble pc 83) (cond (Nat.beq pc 83) (some (.iload_n 1, 1)) none) (cond (Nat.ble pc 84) (cond (Nat.beq pc 84) (some (.iaload, 1)) none) (cond (Nat.beq pc 85) (some (.iload_n 2, 1)) none)))) (cond (Nat.ble pc 89) (cond (Nat.ble pc 86) (cond (Nat.beq pc 86) (some (.invokevirtual 205, 3)) none) (cond (Nat.beq pc 89) (some (.ireturn, 1)) none)) (cond (Nat.ble pc 90) (cond (Nat.beq pc 90) (some (.iload_n 3, 1)) none) (cond (Nat.ble pc 91) (cond (Nat.beq pc 91) (some (.bipush 10, 2)) none) (cond (Nat.beq pc 93) (some (.if_icmp .eq 21, 3)) none)))))) (cond (Nat.ble pc 111) (cond (Nat.ble pc 102) (cond (Nat.ble pc 97) (cond (Nat.ble pc 96) (cond (Nat.beq pc 96) (some (.iload_n 3, 1)) none) (cond (Nat.beq pc 97) (some (.bipush 16, 2)) none)) (cond (Nat.ble pc 99) (cond (Nat.beq pc 99) (some (.if_icmp .eq 15, 3)) none) (cond (Nat.beq pc 102) (some (.iload_n 3, 1)) none))) (cond (Nat.ble pc 105) (cond (Nat.ble pc 103) (cond (Nat.beq pc 103) (some (.bipush 18, 2)) none) (cond (Nat.beq pc 105) (some (.if_icmp .eq 9, 3)) none)) (cond (Nat.ble pc 108) (cond (Nat.beq pc 108) (some (.iload_n 3, 1)) none) (cond (Nat.ble pc 109) (cond (Nat.beq pc 109) (some (.bipush 21, 2)) none) (cond (Nat.beq pc 111) (some (.if_icmp .ne 47, 3)) none))))) (cond (Nat.ble pc 120) (cond (Nat.ble pc 115) (cond (Nat.ble pc 114) (cond (Nat.beq pc 114) (some (.aload_n 0, 1)) none) (cond (Nat.beq pc 115) (some (.getfield 48, 3)) none)) (cond (Nat.ble pc 118) (cond (Nat.beq pc 118) (some (.iload_n 1, 1)) none) (cond (Nat.ble pc 119) (cond (Nat.beq pc 119) (some (.iaload, 1)) none) (cond (Nat.beq pc 120) (some (.iconst 2, 1)) none)))) (cond (Nat.ble pc 124) (cond (Nat.ble pc 121) (cond (Nat.beq pc 121) (some (.if_icmp .ne 7, 3)) none) (cond (Nat.beq pc 124) (some (.iconst (-1), 1)) none)) (cond (Nat.ble pc 125) (cond (Nat.beq pc 125) (some (.goto 32, 3)) none) (cond (Nat.ble pc 128) (cond (Nat.beq pc 128) (some (.aload_n 0, 1)) none) (cond (Nat.beq pc 129) (some (.aload_n 0, 1)) none)))))))) (cond (Nat.ble pc 195) (cond (Nat.ble pc 161) (cond (Nat.ble pc 144) (cond (Nat.ble pc 135) (cond (Nat.ble pc 133) (cond (Nat.ble pc 130) (cond (Nat.beq pc 130) (some (.getfield 48, 3)) none) (cond (Nat.beq pc 133) (some (.iload_n 1, 1)) none)) (cond (Nat.ble pc 134) (cond (Nat.beq pc 134) (some (.iaload, 1)) none) (cond (Nat.beq pc 135) (some (.ifCond .ne 12, 3)) none))) (cond (Nat.ble pc 139) (cond (Nat.ble pc 138) (cond (Nat.beq pc 138) (some (.aload_n 0, 1)) none) (cond (Nat.beq pc 139) (some (.getfield 39, 3)) none)) (cond (Nat.ble pc 142) (cond (Nat.beq pc 142) (some (.iload_n 1, 1)) none) (cond (Nat.ble pc 143) (cond (Nat.beq pc 143) (some (.iaload, 1)) none) (cond (Nat.beq pc 144) (some (.goto 9, 3)) none))))) (cond (Nat.ble pc 153) (cond (Nat.ble pc 148) (cond (Nat.ble pc 147) (cond (Nat.beq pc 147) (some (.aload_n 0, 1)) none) (cond (Nat.beq pc 148) (some (.getfield 42, 3)) none)) (cond (Nat.ble pc 151) (cond (Nat.beq pc 151) (some (.iload_n 1, 1)) none) (cond (Nat.ble pc 152) (cond (Nat.beq pc 152) (some (.iaload, 1)) none) (cond (Nat.beq pc 153) (some (.iload_n 2, 1)) none)))) (cond (Nat.ble pc 157) (cond (Nat.ble pc 154) (cond (Nat.beq pc 154) (some (.invokevirtual 205, 3)) none) (cond (Nat.beq pc 157) (some (.ireturn, 1)) none)) (cond (Nat.ble pc 158) (cond (Nat.beq pc 158) (some (.iload_n 3, 1)) none) (cond (Nat.ble pc 159) (cond (Nat.beq pc 159) (some (.bipush 17, 2)) none) (cond (Nat.beq pc 161) (some (.if_icmp .ne 15, 3)) none)))))) (cond (Nat.ble pc 176) (cond (Nat.ble pc 169) (cond (Nat.ble pc 165) (cond (Nat.ble pc 164) (cond (Nat.beq pc 164) (some (.aload_n 0, 1)) none) (cond (Nat.beq pc 165) (some (.aload_n 0, 1)) none)) (cond (Nat.ble pc 166) (cond (Nat.beq pc 166) (some (.getfield 39, 3)) none) (cond (Nat.beq pc 169) (some (.iload_n 1, 1)) none))) (cond (Nat.ble pc 171) (cond (Nat.ble pc 170) (cond (Nat.beq pc 170) (some (.iaload, 1)) none) (cond (Nat.beq pc 171) (some (.iload_n 2, 1)) none)) (cond (Nat.ble pc 172) (cond (Nat.beq pc 172) (some (.invokevirtual 205, 3)) none) (cond (Nat.ble pc 175) (cond (Nat.beq pc 175) (some (.ireturn, 1)) none) (cond (Nat.beq pc 176) (some (.iload_n 2, 1)) none))))) (cond (Nat.ble pc 186) (cond (Nat.ble pc 180) (cond (Nat.ble pc 177) (cond (Nat.beq pc 177) (some (.ifCond .eq 26, 3)) none) (cond (Nat.beq pc 180) (some (.iload_n 3, 1)) none)) (cond (Nat.ble pc 181) (cond (Nat.beq pc 181) (some (.bipush 20, 2)) none) (cond (Nat.ble pc 183) (cond (Nat.beq pc 183) (some (.if_icmp .ne 16, 3)) none) (cond (Nat.beq pc 186) (some (.aload_n 0, 1)) none)))) (cond (Nat.ble pc 190) (cond (Nat.ble pc 187) (cond (Nat.beq pc 187) (some (.getfield 48, 3)) none) (cond (Nat.beq pc 190) (some (.iload_n 1, 1)) none)) (cond (Nat.ble pc 191) (cond (Nat.beq pc 191) (some (.iaload, 1)) none) (cond (Nat.ble pc 192) (cond (Nat.beq pc 192) (some (.ifCond .ne 7, 3)) none) (cond (Nat.beq pc 195) (some (.iconst 1, 1)) none))))))) (cond (Nat.ble pc 232) (cond (Nat.ble pc 212) (cond (Nat.ble pc 203) (cond (Nat.ble pc 199) (cond (Nat.ble pc 196) (cond (Nat.beq pc 196) (some (.goto 36, 3)) none) (cond (Nat.beq pc 199) (some (.iconst 0, 1)) none)) (cond (Nat.ble pc 200) (cond (Nat.beq pc 200) (some (.goto 32, 3)) none) (cond (Nat.beq pc 203) (some (.iload_n 3, 1)) none))) (cond (Nat.ble pc 206) (cond (Nat.ble pc 204) (cond (Nat.beq pc 204) (some (.bipush 13, 2)) none) (cond (Nat.beq pc 206) (some (.if_icmp .eq 21, 3)) none)) (cond (Nat.ble pc 209) (cond (Nat.beq pc 209) (some (.iload_n 3, 1)) none) (cond (Nat.ble pc 210) (cond (Nat.beq pc 210) (some (.bipush 14, 2)) none) (cond (Nat.beq pc 212) (some (.if_icmp .eq 15, 3)) none))))) (cond (Nat.ble pc 222) (cond (Nat.ble pc 216) (cond (Nat.ble pc 215) (cond (Nat.beq pc 215) (some (.iload_n 3, 1)) none) (cond (Nat.beq pc 216) (some (.bipush 19, 2)) none)) (cond (Nat.ble pc 218) (cond (Nat.beq pc 218) (some (.if_icmp .eq 9, 3)) none) (cond (Nat.ble pc 221) (cond (Nat.beq pc 221) (some (.iload_n 3, 1)) none) (cond (Nat.beq pc 222) (some (.bipush 20, 2)) none)))) (cond (Nat.ble pc 227) (cond (Nat.ble pc 224) (cond (Nat.beq pc 224) (some (.if_icmp .ne 7, 3)) none) (cond (Nat.beq pc 227) (some (.iconst 1, 1)) none)) (cond (Nat.ble pc 228) (cond (Nat.beq pc 228) (some (.goto 4, 3)) none) (cond (Nat.ble pc 231) (cond (Nat.beq pc 231) (some (.iconst 0, 1)) none) (cond (Nat.beq pc 232) (some (.istore 4, 2)) none)))))) (cond (Nat.ble pc 249) (cond (Nat.ble pc 239) (cond (Nat.ble pc 235) (cond (Nat.ble pc 234) (cond (Nat.beq pc 234) (some (.aload_n 0, 1)) none) (cond (Nat.beq pc 235) (some (.dup, 1)) none)) (cond (Nat.ble pc 236) (cond (Nat.beq pc 236) (some (.getfield 209, 3)) none) (cond (Nat.beq pc 239) (some (.iload 4, 2)) none))) (cond (Nat.ble pc 244) (cond (Nat.ble pc 241) (cond (Nat.beq pc 241) (some (.ifCond .eq 7, 3)) none) (cond (Nat.beq pc 244) (some (.iconst 1, 1)) none)) (cond (Nat.ble pc 245) (cond (Nat.beq pc 245) (some (.goto 4, 3)) none) (cond (Nat.ble pc 248) (cond (Nat.beq pc 248) (some (.iconst 0, 1)) none) (cond (Nat.beq pc 249) (some (.isub, 1)) none))))) (cond (Nat.ble pc 259) (cond (Nat.ble pc 253) (cond (Nat.ble pc 250) (cond (Nat.beq pc 250) (some (.putfield 209, 3)) none) (cond (Nat.beq pc 253) (some (.iload 4, 2)) none)) (cond (Nat.ble pc 255) (cond (Nat.beq pc 255) (some (.ifCond .eq 14, 3)) none) (cond (Nat.ble pc 258) (cond (Nat.beq pc 258) (some (.aload_n 0, 1)) none) (cond (Nat.beq pc 259) (some (.getfield 209, 3)) none)))) (cond (Nat.ble pc 265) (cond (Nat.ble pc 262) (cond (Nat.beq pc 262) (some (.ifCond .ge 7, 3)) none) (cond (Nat.beq pc 265) (some (.iload_n 1, 1)) none)) (cond (Nat.ble pc 266) (cond (Nat.beq pc 266) (some (.goto 4, 3)) none) (cond (Nat.ble pc 269) (cond (Nat.beq pc 269) (some (.iconst (-1), 1)) none) (cond (Nat.beq pc 270) (some (.ireturn, 1)) none)))))))))
set_option maxRecDepth 100000 in
theorem zd101_0 : (List.range' 0 67).all (fun pc => match zI101 pc with | some q => decide (decode (zCode 101) pc = .ok q) | none => true) = true := by decide +kernel
set_option maxRecDepth 100000 in
theorem zd101_1 : (List.range' 67 71).all (fun pc => match zI101 pc with | some q => decide (decode (zCode 101) pc = .ok q) | none => true) = true := by decide +kernel
set_option maxRecDepth 100000 in
theorem zd101_2 : (List.range' 138 71).all (fun pc => match zI101 pc with | some q => decide (decode (zCode 101) pc = .ok q) | none => true) = true := by decide +kernel
set_option maxRecDepth 100000 in
theorem zd101_3 : (List.range' 209 62).all (fun pc => match zI101 pc with | some q => decide (decode (zCode 101) pc = .ok q) | none => true) = true := by decide +kernel
theorem zJ101 {pc : Nat} {q : Jvm.ClassFile.Instr × Nat} (h : zI101 pc = some q) : decode (zCode 101) pc = .ok q := by
  have hb := (z_gd (n := 271) (pc := pc) h).1
  by_cases c0 : pc < 67
  · exact z_ck zd101_0 (by omega) (by omega) h
  by_cases c1 : pc < 138
  · exact z_ck zd101_1 (by omega) (by omega) h
  by_cases c2 : pc < 209
  · exact z_ck zd101_2 (by omega) (by omega) h
  exact z_ck zd101_3 (by omega) (by omega) h
end
section
/-! decoded code, by program (wip/whole/gen2.py) -/
def zI102 (pc : Nat) : Option (Jvm.ClassFile.Instr × Nat) := cond (Nat.ble 64 pc) none (cond (Nat.ble pc 31) (cond (Nat.ble pc 16) (cond (Nat.ble pc 7) (cond (Nat.ble pc 1) (cond (Nat.ble pc 0) (cond (Nat.beq pc 0) (some (.aload_n 0, 1)) none) (cond (Nat.beq pc 1) (some (.getfield 136, 3)) none)) (cond (Nat.ble pc 4) (cond (Nat.beq pc 4) (some (.ifCond .eq 15, 3)) none) (cond (Nat.beq pc 7) (some (.iload_n 1, 1)) none))) (cond (Nat.ble pc 11) (cond (Nat.ble pc 8) (cond (Nat.beq pc 8) (some (.ifCond .lt 11, 3)) none) (cond (Nat.beq pc 11) (some (.iload_n 1, 1)) none)) (cond (Nat.ble pc 12) (cond (Nat.beq pc 12) (some (.aload_n 0, 1)) none) (cond (Nat.ble pc 13) (cond (Nat.beq pc 13) (some (.getfield 147, 3)) none) (cond (Nat.beq pc 16) (some (.if_icmp .lt 5, 3)) none))))) (cond (Nat.ble pc 22) (cond (Nat.ble pc 20) (cond (Nat.ble pc 19) (cond (Nat.beq pc 19) (some (.iconst (-1), 1)) none) (cond (Nat.beq pc 20) (some (.ireturn, 1)) none)) (cond (Nat.ble pc 21) (cond (Nat.beq pc 21) (some (.iload_n 2, 1)) none) (cond (Nat.beq pc 22) (some (.ifCond .ne 12, 3)) none))) (cond (Nat.ble pc 26) (cond (Nat.ble pc 25) (cond (Nat.beq pc 25) (some (.aload_n 0, 1)) none) (cond (Nat.beq pc 26) (some (.getfield 82, 3)) none)) (cond (Nat.ble pc 29) (cond (Nat.beq pc 29) (some (.iload_n 1, 1)) none) (cond (Nat.ble pc 30) (cond (Nat.beq pc 30) (some (.iaload, 1)) none) (cond (Nat.beq pc 31) (some (.goto 32, 3)) none)))))) (cond (Nat.ble pc 48) (cond (Nat.ble pc 39) (cond (Nat.ble pc 35) (cond (Nat.ble pc 34) (cond (Nat.beq pc 34) (some (.iload_n 2, 1)) none) (cond (Nat.beq pc 35) (some (.iconst 1, 1)) none)) (cond (Nat.ble pc 36) (cond (Nat.beq pc 36) (some (.if_icmp .ne 12, 3)) none) (cond (Nat.beq pc 39) (some (.aload_n 0, 1)) none))) (cond (Nat.ble pc 43) (cond (Nat.ble pc 40) (cond (Nat.beq pc 40) (some (.getfield 85, 3)) none) (cond (Nat.beq pc 43) (some (.iload_n 1, 1)) none)) (cond (Nat.ble pc 44) (cond (Nat.beq pc 44) (some (.iaload, 1)) none) (cond (Nat.ble pc 45) (cond (Nat.beq pc 45) (some (.goto 18, 3)) none) (cond (Nat.beq pc 48) (some (.iload_n 2, 1)) none))))) (cond (Nat.ble pc 54) (cond (Nat.ble pc 50) (cond (Nat.ble pc 49) (cond (Nat.beq pc 49) (some (.iconst 2, 1)) none) (cond (Nat.beq pc 50) (some (.if_icmp .ne 12, 3)) none)) (cond (Nat.ble pc 53) (cond (Nat.beq pc 53) (some (.aload_n 0, 1)) none) (cond (Nat.beq pc 54) (some (.getfield 88, 3)) none))) (cond (Nat.ble pc 58) (cond (Nat.ble pc 57) (cond (Nat.beq pc 57) (some (.iload_n 1, 1)) none) (cond (Nat.beq pc 58) (some (.iaload, 1)) none)) (cond (Nat.ble pc 59) (cond (Nat.beq pc 59) (some (.goto 4, 3)) none) (cond (Nat.ble pc 62) (cond (Nat.beq pc 62) (some (.iconst (-1), 1)) none) (cond (Nat.beq pc 63) (some (.ireturn, 1)) none)))))))
set_option maxRecDepth 100000 in
theorem zd102_0 : (List.range' 0 64).all (fun pc => match zI102 pc with | some q => decide (decode (zCode 102) pc = .ok q) | none => true) = true := by decide +kernel
theorem zJ102 {pc : Nat} {q : Jvm.ClassFile.Instr × Nat} (h : zI102 pc = some q) : decode (zCode 102) pc = .ok q := by
  have hb := (z_gd (n := 64) (pc := pc) h).1
  exact z_ck zd102_0 (by omega) (by omega) h
def zI103 (pc : Nat) : Option (Jvm.ClassFile.Instr × Nat) := cond (Nat.ble 61 pc) none (cond (Nat.ble pc 30) (cond (Nat.ble pc 16) (cond (Nat.ble pc 7) (cond (Nat.ble pc 1) (cond (Nat.ble pc 0) (cond (Nat.beq pc 0) (some (.aload_n 0, 1)) none) (cond (Nat.beq pc 1) (some (.invokevirtual 212, 3)) none)) (cond (Nat.ble pc 4) (cond (Nat.beq pc 4) (some (.ifCond .eq 11, 3)) none) (cond (Nat.beq pc 7) (some (.aload_n 0, 1)) none))) (cond (Nat.ble pc 11) (cond (Nat.ble pc 8) (cond (Nat.beq pc 8) (some (.getfield 140, 3)) none) (cond (Nat.beq pc 11) (some (.iconst 2, 1)) none)) (cond (Nat.ble pc 12) (cond (Nat.beq pc 12) (some (.if_icmp .ne 5, 3)) none) (cond (Nat.ble pc 15) (cond (Nat.beq pc 15) (some (.iconst 0, 1)) none) (cond (Nat.beq pc 16) (some (.ireturn, 1)) none))))) (cond (Nat.ble pc 23) (cond (Nat.ble pc 18) (cond (Nat.ble pc 17) (cond (Nat.beq pc 17) (some (.aload_n 0, 1)) none) (cond (Nat.beq pc 18) (some (.iconst 0, 1)) none)) (cond (Nat.ble pc 19) (cond (Nat.beq pc 19) (some (.putfield 209, 3)) none) (cond (Nat.ble pc 22) (cond (Nat.beq pc 22) (some (.aload_n 0, 1)) none) (cond (Nat.beq pc 23) (some (.iconst 0, 1)) none)))) (cond (Nat.ble pc 25) (cond (Nat.ble pc 24) (cond (Nat.beq pc 24) (some (.iconst 1, 1)) none) (cond (Nat.beq pc 25) (some (.invokevirtual 205, 3)) none)) (cond (Nat.ble pc 28) (cond (Nat.beq pc 28) (some (.istore_n 3, 1)) none) (cond (Nat.ble pc 29) (cond (Nat.beq pc 29) (some (.iload_n 3, 1)) none) (cond (Nat.beq pc 30) (some (.ifCond .ge 5, 3)) none)))))) (cond (Nat.ble pc 46) (cond (Nat.ble pc 39) (cond (Nat.ble pc 34) (cond (Nat.ble pc 33) (cond (Nat.beq pc 33) (some (.iconst 0, 1)) none) (cond (Nat.beq pc 34) (some (.ireturn, 1)) none)) (cond (Nat.ble pc 35) (cond (Nat.beq pc 35) (some (.aload_n 0, 1)) none) (cond (Nat.ble pc 36) (cond (Nat.beq pc 36) (some (.getfield 48, 3)) none) (cond (Nat.beq pc 39) (some (.iload_n 3, 1)) none)))) (cond (Nat.ble pc 41) (cond (Nat.ble pc 40) (cond (Nat.beq pc 40) (some (.iconst 1, 1)) none) (cond (Nat.beq pc 41) (some (.iastore, 1)) none)) (cond (Nat.ble pc 42) (cond (Nat.beq pc 42) (some (.aload_n 0, 1)) none) (cond (Nat.ble pc 43) (cond (Nat.beq pc 43) (some (.getfield 66, 3)) none) (cond (Nat.beq pc 46) (some (.aload_n 0, 1)) none))))) (cond (Nat.ble pc 55) (cond (Nat.ble pc 50) (cond (Nat.ble pc 47) (cond (Nat.beq pc 47) (some (.getfield 13, 3)) none) (cond (Nat.beq pc 50) (some (.aload_n 0, 1)) none)) (cond (Nat.ble pc 51) (cond (Nat.beq pc 51) (some (.getfield 36, 3)) none) (cond (Nat.ble pc 54) (cond (Nat.beq pc 54) (some (.iload_n 3, 1)) none) (cond (Nat.beq pc 55) (some (.iaload, 1)) none)))) (cond (Nat.ble pc 57) (cond (Nat.ble pc 56) (cond (Nat.beq pc 56) (some (.iaload, 1)) none) (cond (Nat.beq pc 57) (some (.lload_n 1, 1)) none)) (cond (Nat.ble pc 58) (cond (Nat.beq pc 58) (some (.lastore, 1)) none) (cond (Nat.ble pc 59) (cond (Nat.beq pc 59) (some (.iconst 1, 1)) none) (cond (Nat.beq pc 60) (some (.ireturn, 1)) none)))))))
set_option maxRecDepth 100000 in
theorem zd103_0 : (List.range' 0 61).all (fun pc => match zI103 pc with | some q => decide (decode (zCode 103) pc = .ok q) | none => true) = true := by decide +kernel
theorem zJ103 {pc : Nat} {q : Jvm.ClassFile.Instr × Nat} (h : zI103 pc = some q) : decode (zCode 103) pc = .ok q := by
  have hb := (z_gd (n := 61) (pc := pc) h).1
  exact z_ck zd103_0 (by omega) (by omega) h
def zI104 (pc : Nat) : Option (Jvm.ClassFile.Instr × Nat) := cond (Nat.ble 41 pc) none (cond (Nat.ble pc 20) (cond (Nat.ble pc 8) (cond (Nat.ble pc 1) (cond (Nat.ble pc 0) (cond (Nat.beq pc 0) (some (.aload_n 0, 1)) none) (cond (Nat.beq pc 1) (some (.invokevirtual 212, 3)) none)) (cond (Nat.ble pc 4) (cond (Nat.beq pc 4) (some (.ifCond .eq 20, 3)) none) (cond (Nat.ble pc 7) (cond (Nat.beq pc 7) (some (.aload_n 0, 1)) none) (cond (Nat.beq pc 8) (some (.getfield 140, 3)) none)))) (cond (Nat.ble pc 15) (cond (Nat.ble pc 11) (cond (Nat.beq pc 11) (some (.iconst 2, 1)) none) (cond (Nat.ble pc 12) (cond (Nat.beq pc 12) (some (.if_icmp .ne 7, 3)) none) (cond (Nat.beq pc 15) (some (.iconst 1, 1)) none))) (cond (Nat.ble pc 16) (cond (Nat.beq pc 16) (some (.goto 4, 3)) none) (cond (Nat.ble pc 19) (cond (Nat.beq pc 19) (some (.iconst 0, 1)) none) (cond (Nat.beq pc 20) (some (.iload_n 1, 1)) none))))) (cond (Nat.ble pc 28) (cond (Nat.ble pc 25) (cond (Nat.ble pc 21) (cond (Nat.beq pc 21) (some (.if_icmp .ne 5, 3)) none) (cond (Nat.ble pc 24) (cond (Nat.beq pc 24) (some (.iconst 0, 1)) none) (cond (Nat.beq pc 25) (some (.ireturn, 1)) none))) (cond (Nat.ble pc 26) (cond (Nat.beq pc 26) (some (.aload_n 0, 1)) none) (cond (Nat.ble pc 27) (cond (Nat.beq pc 27) (some (.iload_n 1, 1)) none) (cond (Nat.beq pc 28) (some (.ifCond .eq 7, 3)) none)))) (cond (Nat.ble pc 35) (cond (Nat.ble pc 31) (cond (Nat.beq pc 31) (some (.iconst 2, 1)) none) (cond (Nat.ble pc 32) (cond (Nat.beq pc 32) (some (.goto 4, 3)) none) (cond (Nat.beq pc 35) (some (.iconst 0, 1)) none))) (cond (Nat.ble pc 36) (cond (Nat.beq pc 36) (some (.putfield 140, 3)) none) (cond (Nat.ble pc 39) (cond (Nat.beq pc 39) (some (.iconst 1, 1)) none) (cond (Nat.beq pc 40) (some (.ireturn, 1)) none))))))
set_option maxRecDepth 100000 in
theorem zd104_0 : (List.range' 0 41).all (fun pc => match zI104 pc with | some q => decide (decode (zCode 104) pc = .ok q) | none => true) = true := by decide +kernel
theorem zJ104 {pc : Nat} {q : Jvm.ClassFile.Instr × Nat} (h : zI104 pc = some q) : decode (zCode 104) pc = .ok q := by
  have hb := (z_gd (n := 41) (pc := pc) h).1
  exact z_ck zd104_0 (by omega) (by omega) h
def zI105 (pc : Nat) : Option (Jvm.ClassFile.Instr × Nat) := cond (Nat.ble 31 pc) none (cond (Nat.ble pc 14) (cond (Nat.ble pc 7) (cond (Nat.ble pc 1) (cond (Nat.ble pc 0) (cond (Nat.beq pc 0) (some (.aload_n 0, 1)) none) (cond (Nat.beq pc 1) (some (.invokevirtual 212, 3)) none)) (cond (Nat.ble pc 4) (cond (Nat.beq pc 4) (some (.ifCond .ne 5, 3)) none) (cond (Nat.beq pc 7) (some (.iconst (-1), 1)) none))) (cond (Nat.ble pc 9) (cond (Nat.ble pc 8) (cond (Nat.beq pc 8) (some (.ireturn, 1)) none) (cond (Nat.beq pc 9) (some (.aload_n 0, 1)) none)) (cond (Nat.ble pc 10) (cond (Nat.beq pc 10) (some (.getfield 150, 3)) none) (cond (Nat.ble pc 13) (cond (Nat.beq pc 13) (some (.istore_n 1, 1)) none) (cond (Nat.beq pc 14) (some (.aload_n 0, 1)) none))))) (cond (Nat.ble pc 21) (cond (Nat.ble pc 16) (cond (Nat.ble pc 15) (cond (Nat.beq pc 15) (some (.iconst 0, 1)) none) (cond (Nat.beq pc 16) (some (.invokevirtual 199, 3)) none)) (cond (Nat.ble pc 19) (cond (Nat.beq pc 19) (some (.aload_n 0, 1)) none) (cond (Nat.ble pc 20) (cond (Nat.beq pc 20) (some (.iconst 3, 1)) none) (cond (Nat.beq pc 21) (some (.putfield 140, 3)) none)))) (cond (Nat.ble pc 25) (cond (Nat.ble pc 24) (cond (Nat.beq pc 24) (some (.aload_n 0, 1)) none) (cond (Nat.beq pc 25) (some (.getfield 150, 3)) none)) (cond (Nat.ble pc 28) (cond (Nat.beq pc 28) (some (.iload_n 1, 1)) none) (cond (Nat.ble pc 29) (cond (Nat.beq pc 29) (some (.isub, 1)) none) (cond (Nat.beq pc 30) (some (.ireturn, 1)) none))))))
set_option maxRecDepth 100000 in
theorem zd105_0 : (List.range' 0 31).all (fun pc => match zI105 pc with | some q => decide (decode (zCode 105) pc = .ok q) | none => true) = true := by decide +kernel
theorem zJ105 {pc : Nat} {q : Jvm.ClassFile.Instr × Nat} (h : zI105 pc = some q) : decode (zCode 105) pc = .ok q := by
  have hb := (z_gd (n := 31) (pc := pc) h).1
  exact z_ck zd105_0 (by omega) (by omega) h
def zI106 (pc : Nat) : Option (Jvm.ClassFile.Instr × Nat) := cond (Nat.ble 37 pc) none (cond (Nat.ble pc 16) (cond (Nat.ble pc 7) (cond (Nat.ble pc 1) (cond (Nat.ble pc 0) (cond (Nat.beq pc 0) (some (.aload_n 0, 1)) none) (cond (Nat.beq pc 1) (some (.getfield 136, 3)) none)) (cond (Nat.ble pc 4) (cond (Nat.beq pc 4) (some (.ifCond .eq 31, 3)) none) (cond (Nat.beq pc 7) (some (.iload_n 1, 1)) none))) (cond (Nat.ble pc 11) (cond (Nat.ble pc 8) (cond (Nat.beq pc 8) (some (.ifCond .lt 27, 3)) none) (cond (Nat.beq pc 11) (some (.iload_n 1, 1)) none)) (cond (Nat.ble pc 12) (cond (Nat.beq pc 12) (some (.aload_n 0, 1)) none) (cond (Nat.ble pc 13) (cond (Nat.beq pc 13) (some (.getfield 150, 3)) none) (cond (Nat.beq pc 16) (some (.if_icmp .ge 19, 3)) none))))) (cond (Nat.ble pc 27) (cond (Nat.ble pc 20) (cond (Nat.ble pc 19) (cond (Nat.beq pc 19) (some (.iload_n 1, 1)) none) (cond (Nat.beq pc 20) (some (.sipush 200, 3)) none)) (cond (Nat.ble pc 23) (cond (Nat.beq pc 23) (some (.if_icmp .ge 12, 3)) none) (cond (Nat.ble pc 26) (cond (Nat.beq pc 26) (some (.aload_n 0, 1)) none) (cond (Nat.beq pc 27) (some (.getfield 91, 3)) none)))) (cond (Nat.ble pc 31) (cond (Nat.ble pc 30) (cond (Nat.beq pc 30) (some (.iload_n 1, 1)) none) (cond (Nat.beq pc 31) (some (.iaload, 1)) none)) (cond (Nat.ble pc 32) (cond (Nat.beq pc 32) (some (.goto 4, 3)) none) (cond (Nat.ble pc 35) (cond (Nat.beq pc 35) (some (.iconst (-1), 1)) none) (cond (Nat.beq pc 36) (some (.ireturn, 1)) none))))))
set_option maxRecDepth 100000 in
theorem zd106_0 : (List.range' 0 37).all (fun pc => match zI106 pc with | some q => decide (decode (zCode 106) pc = .ok q) | none => true) = true := by decide +kernel
theorem zJ106 {pc : Nat} {q : Jvm.ClassFile.Instr × Nat} (h : zI106 pc = some q) : decode (zCode 106) pc = .ok q := by
  have hb := (z_gd (n := 37) (pc := pc) h).1
  exact z_ck zd106_0 (by omega) (by omega) h
def zI107 (pc : Nat) : Option (Jvm.ClassFile.Instr × Nat) := cond (Nat.ble 18 pc) none (cond (Nat.ble pc 8) (cond (Nat.ble pc 1) (cond (Nat.ble pc 0) (cond (Nat.beq pc 0) (some (.iload_n 1, 1)) none) (cond (Nat.beq pc 1) (some (.invokestatic 113, 3)) none)) (cond (Nat.ble pc 4) (cond (Nat.beq pc 4) (some (.ifCond .eq 12, 3)) none) (cond (Nat.ble pc 7) (cond (Nat.beq pc 7) (some (.aload_n 0, 1)) none) (cond (Nat.beq pc 8) (some (.getfield 66, 3)) none)))) (cond (Nat.ble pc 12) (cond (Nat.ble pc 11) (cond (Nat.beq pc 11) (some (.iload_n 1, 1)) none) (cond (Nat.beq pc 12) (some (.laload, 1)) none)) (cond (Nat.ble pc 13) (cond (Nat.beq pc 13) (some (.goto 4, 3)) none) (cond (Nat.ble pc 16) (cond (Nat.beq pc 16) (some (.lconst 0, 1)) none) (cond (Nat.beq pc 17) (some (.lreturn, 1)) none)))))
set_option maxRecDepth 100000 in
theorem zd107_0 : (List.range' 0 18).all (fun pc => match zI107 pc with | some q => decide (decode (zCode 107) pc = .ok q) | none => true) = true := by decide +kernel
theorem zJ107 {pc : Nat} {q : Jvm.ClassFile.Instr × Nat} (h : zI107 pc = some q) : decode (zCode 107) pc = .ok q := by
  have hb := (z_gd (n := 18) (pc := pc) h).1
  exact z_ck zd107_0 (by omega) (by omega) h
def zI108 (pc : Nat) : Option (Jvm.ClassFile.Instr × Nat) := cond (Nat.ble 25 pc) none (cond (Nat.ble pc 13) (cond (Nat.ble pc 7) (cond (Nat.ble pc 1) (cond (Nat.ble pc 0) (cond (Nat.beq pc 0) (some (.iload_n 1, 1)) none) (cond (Nat.beq pc 1) (some (.invokestatic 113, 3)) none)) (cond (Nat.ble pc 4) (cond (Nat.beq pc 4) (some (.ifCond .ne 5, 3)) none) (cond (Nat.beq pc 7) (some (.iconst 0, 1)) none))) (cond (Nat.ble pc 9) (cond (Nat.ble pc 8) (cond (Nat.beq pc 8) (some (.ireturn, 1)) none) (cond (Nat.beq pc 9) (some (.aload_n 0, 1)) none)) (cond (Nat.ble pc 10) (cond (Nat.beq pc 10) (some (.getfield 72, 3)) none) (cond (Nat.beq pc 13) (some (.iload_n 1, 1)) none)))) (cond (Nat.ble pc 17) (cond (Nat.ble pc 15) (cond (Nat.ble pc 14) (cond (Nat.beq pc 14) (some (.lload_n 2, 1)) none) (cond (Nat.beq pc 15) (some (.lastore, 1)) none)) (cond (Nat.ble pc 16) (cond (Nat.beq pc 16) (some (.aload_n 0, 1)) none) (cond (Nat.beq pc 17) (some (.getfield 75, 3)) none))) (cond (Nat.ble pc 21) (cond (Nat.ble pc 20) (cond (Nat.beq pc 20) (some (.iload_n 1, 1)) none) (cond (Nat.beq pc 21) (some (.iconst 1, 1)) none)) (cond (Nat.ble pc 22) (cond (Nat.beq pc 22) (some (.bastore, 1)) none) (cond (Nat.ble pc 23) (cond (Nat.beq pc 23) (some (.iconst 1, 1)) none) (cond (Nat.beq pc 24) (some (.ireturn, 1)) none))))))
set_option maxRecDepth 100000 in
theorem zd108_0 : (List.range' 0 25).all (fun pc => match zI108 pc with | some q => decide (decode (zCode 108) pc = .ok q) | none => true) = true := by decide +kernel
theorem zJ108 {pc : Nat} {q : Jvm.ClassFile.Instr × Nat} (h : zI108 pc = some q) : decode (zCode 108) pc = .ok q := by
  have hb := (z_gd (n := 25) (pc := pc) h).1
  exact z_ck zd108_0 (by omega) (by omega) h
def zI109 (pc : Nat) : Option (Jvm.ClassFile.Instr × Nat) := cond (Nat.ble 632 pc) none (cond (Nat.ble pc 340) (cond (Nat.ble pc 202) (cond (Nat.ble pc 139) (cond (Nat.ble pc 107) (cond (Nat.ble pc 20) (cond (Nat.ble pc 11) (cond (Nat.ble pc 4) (cond (Nat.ble pc 0) (cond (Nat.beq pc 0) (some (.new 7, 3)) none) (cond (Nat.ble pc 3) (cond (Nat.beq pc 3) (some (.dup, 1)) none) (cond (Nat.beq pc 4) (some (.invokespecial 9, 3)) none))) (cond (Nat.ble pc 7) (cond (Nat.beq pc 7) (some (.astore_n 1, 1)) none) (cond (Nat.ble pc 8) (cond (Nat.beq pc 8) (some (.new 10, 3)) none) (cond (Nat.beq pc 11) (some (.dup, 1)) none)))) (cond (Nat.ble pc 16) (cond (Nat.ble pc 12) (cond (Nat.beq pc 12) (some (.invokespecial 12, 3)) none) (cond (Nat.ble pc 15) (cond (Nat.beq pc 15) (some (.astore_n 2, 1)) none) (cond (Nat.beq pc 16) (some (.iconst 0, 1)) none))) (cond (Nat.ble pc 18) (cond (Nat.ble pc 17) (cond (Nat.beq pc 17) (some (.istore_n 3, 1)) none) (cond (Nat.beq pc 18) (some (.iload_n 3, 1)) none)) (cond (Nat.ble pc 19) (cond (Nat.beq pc 19) (some (.aload_n 0, 1)) none) (cond (Nat.beq pc 20) (some (.arraylength, 1)) none))))) (cond (Nat.ble pc 28) (cond (Nat.ble pc 23) (cond (Nat.ble pc 21) (cond (Nat.beq pc 21) (some (.iconst 5, 1)) none) (cond (Nat.ble pc 22) (cond (Nat.beq pc 22) (some (.isub, 1)) none) (cond (Nat.beq pc 23) (some (.if_icmp .gt 607, 3)) none))) (cond (Nat.ble pc 26) (cond (Nat.beq pc 26) (some (.aload_n 0, 1)) none) (cond (Nat.ble pc 27) (cond (Nat.beq pc 27) (some (.iload_n 3, 1)) none) (cond (Nat.beq pc 28) (some (.iaload, 1)) none)))) (cond (Nat.ble pc 32) (cond (Nat.ble pc 29) (cond (Nat.beq pc 29) (some (.bipush 15, 2)) none) (cond (Nat.ble pc 31) (cond (Nat.beq pc 31) (some (.iand, 1)) none) (cond (Nat.beq pc 32) (some (.tableswitch 592 0 13 #[72, 135, 188, 251, 274, 297, 321, 344, 377, 430, 469, 482, 505, 529], 72)) none))) (cond (Nat.ble pc 105) (cond (Nat.ble pc 104) (cond (Nat.beq pc 104) (some (.aload_n 1, 1)) none) (cond (Nat.beq pc 105) (some (.aload_n 0, 1)) none)) (cond (Nat.ble pc 106) (cond (Nat.beq pc 106) (some (.iload_n 3, 1)) none) (cond (Nat.beq pc 107) (some (.iconst 1, 1)) none)))))) (cond (Nat.ble pc 121) (cond (Nat.ble pc 113) (cond (Nat.ble pc 110) (cond (Nat.ble pc 108) (cond (Nat.beq pc 108) (some (.iadd, 1)) none) (cond (Nat.ble pc 109) (cond (Nat.beq pc 109) (some (.iaload, 1)) none) (cond (Nat.beq pc 110) (some (.aload_n 0, 1)) none))) (cond (Nat.ble pc 111) (cond (Nat.beq pc 111) (some (.iload_n 3, 1)) none) (cond (Nat.ble pc 112) (cond (Nat.beq pc 112) (some (.iconst 2, 1)) none) (cond (Nat.beq pc 113) (some (.iadd, 1)) none)))) (cond (Nat.ble pc 116) (cond (Nat.ble pc 114) (cond (Nat.beq pc 114) (some (.iaload, 1)) none) (cond (Nat.ble pc 115) (cond (Nat.beq pc 115) (some (.i2l, 1)) none) (cond (Nat.beq pc 116) (some (.bipush 32, 2)) none))) (cond (Nat.ble pc 119) (cond (Nat.ble pc 118) (cond (Nat.beq pc 118) (some (.lshl, 1)) none) (cond (Nat.beq pc 119) (some (.aload_n 0, 1)) none)) (cond (Nat.ble pc 120) (cond (Nat.beq pc 120) (some (.iload_n 3, 1)) none) (cond (Nat.beq pc 121) (some (.iconst 3, 1)) none))))) (cond (Nat.ble pc 130) (cond (Nat.ble pc 124) (cond (Nat.ble pc 122) (cond (Nat.beq pc 122) (some (.iadd, 1)) none) (cond (Nat.ble pc 123) (cond (Nat.beq pc 123) (some (.iaload, 1)) none) (cond (Nat.beq pc 124) (some (.i2l, 1)) none))) (cond (Nat.ble pc 128) (cond (Nat.ble pc 125) (cond (Nat.beq pc 125) (some (.ldc2_w 13, 3)) none) (cond (Nat.beq pc 128) (some (.land, 1)) none)) (cond (Nat.ble pc 129) (cond (Nat.beq pc 129) (some (.lor, 1)) none) (cond (Nat.beq pc 130) (some (.invokevirtual 15, 3)) none)))) (cond (Nat.ble pc 135) (cond (Nat.ble pc 133) (cond (Nat.beq pc 133) (some (.aload_n 2, 1)) none) (cond (Nat.ble pc 134) (cond (Nat.beq pc 134) (some (.aload_n 0, 1)) none) (cond (Nat.beq pc 135) (some (.iload_n 3, 1)) none))) (cond (Nat.ble pc 137) (cond (Nat.ble pc 136) (cond (Nat.beq pc 136) (some (.iconst 1, 1)) none) (cond (Nat.beq pc 137) (some (.iadd, 1)) none)) (cond (Nat.ble pc 138) (cond (Nat.beq pc 138) (some (.iaload, 1)) none) (cond (Nat.beq pc 139) (some (.aload_n 0, 1)) none))))))) (cond (Nat.ble pc 173) (cond (Nat.ble pc 153) (cond (Nat.ble pc 145) (cond (Nat.ble pc 142) (cond (Nat.ble pc 140) (cond (Nat.beq pc 140) (some (.iload_n 3, 1)) none) (cond (Nat.ble pc 141) (cond (Nat.beq pc 141) (some (.iconst 2, 1)) none) (cond (Nat.beq pc 142) (some (.iadd, 1)) none))) (cond (Nat.ble pc 143) (cond (Nat.beq pc 143) (some (.iaload, 1)) none) (cond (Nat.ble pc 144) (cond (Nat.beq pc 144) (some (.i2l, 1)) none) (cond (Nat.beq pc 145) (some (.bipush 32, 2)) none)))) (cond (Nat.ble pc 149) (cond (Nat.ble pc 147) (cond (Nat.beq pc 147) (some (.lshl, 1)) none) (cond (Nat.ble pc 148) (cond (Nat.beq pc 148) (some (.aload_n 0, 1)) none) (cond (Nat.beq pc 149) (some (.iload_n 3, 1)) none))) (cond (Nat.ble pc 151) (cond (Nat.ble pc 150) (cond (Nat.beq pc 150) (some (.iconst 3, 1)) none) (cond (Nat.beq pc 151) (some (.iadd, 1)) none)) (cond (Nat.ble pc 152) (cond (Nat.beq pc 152) (some (.iaload, 1)) none) (cond (Nat.beq pc 153) (some (.i2l, 1)) none))))) (cond (Nat.ble pc 166) (cond (Nat.ble pc 158) (cond (Nat.ble pc 154) (cond (Nat.beq pc 154) (some (.ldc2_w 13, 3)) none) (cond (Nat.ble pc 157) (cond (Nat.beq pc 157) (some (.land, 1)) none) (cond (Nat.beq pc 158) (some (.lor, 1)) none))) (cond (Nat.ble pc 162) (cond (Nat.ble pc 159) (cond (Nat.beq pc 159) (some (.invokevirtual 19, 3)) none) (cond (Nat.beq pc 162) (some (.if_icmp .eq 462, 3)) none)) (cond (Nat.ble pc 165) (cond (Nat.beq pc 165) (some (.iconst 0, 1)) none) (cond (Nat.beq pc 166) (some (.ireturn, 1)) none)))) (cond (Nat.ble pc 169) (cond (Nat.ble pc 167) (cond (Nat.beq pc 167) (some (.aload_n 1, 1)) none) (cond (Nat.ble pc 168) (cond (Nat.beq pc 168) (some (.aload_n 0, 1)) none) (cond (Nat.beq pc 169) (some (.iload_n 3, 1)) none))) (cond (Nat.ble pc 171) (cond (Nat.ble pc 170) (cond (Nat.beq pc 170) (some (.iconst 1, 1)) none) (cond (Nat.beq pc 171) (some (.iadd, 1)) none)) (cond (Nat.ble pc 172) (cond (Nat.beq pc 172) (some (.iaload, 1)) none) (cond (Nat.beq pc 173) (some (.aload_n 0, 1)) none)))))) (cond (Nat.ble pc 186) (cond (Nat.ble pc 179) (cond (Nat.ble pc 176) (cond (Nat.ble pc 174) (cond (Nat.beq pc 174) (some (.iload_n 3, 1)) none) (cond (Nat.ble pc 175) (cond (Nat.beq pc 175) (some (.iconst 2, 1)) none) (cond (Nat.beq pc 176) (some (.iadd, 1)) none))) (cond (Nat.ble pc 177) (cond (Nat.beq pc 177) (some (.iaload, 1)) none) (cond (Nat.ble pc 178) (cond (Nat.beq pc 178) (some (.aload_n 0, 1)) none) (cond (Nat.beq pc 179) (some (.iload_n 3, 1)) none)))) (cond (Nat.ble pc 182) (cond (Nat.ble pc 180) (cond (Nat.beq pc 180) (some (.iconst 3, 1)) none) (cond (Nat.ble pc 181) (cond (Nat.beq pc 181) (some (.iadd, 1)) none) (cond (Nat.beq pc 182) (some (.iaload, 1)) none))) (cond (Nat.ble pc 184) (cond (Nat.ble pc 183) (cond (Nat.beq pc 183) (some (.aload_n 0, 1)) none) (cond (Nat.beq pc 184) (some (.iload_n 3, 1)) none)) (cond (Nat.ble pc 185) (cond (Nat.beq pc 185) (some (.iconst 4, 1)) none) (cond (Nat.beq pc 186) (some (.iadd, 1)) none))))) (cond (Nat.ble pc 195) (cond (Nat.ble pc 191) (cond (Nat.ble pc 187) (cond (Nat.beq pc 187) (some (.iaload, 1)) none) (cond (Nat.ble pc 188) (cond (Nat.beq pc 188) (some (.invokevirtual 20, 3)) none) (cond (Nat.beq pc 191) (some (.aload_n 2, 1)) none))) (cond (Nat.ble pc 193) (cond (Nat.ble pc 192) (cond (Nat.beq pc 192) (some (.aload_n 0, 1)) none) (cond (Nat.beq pc 193) (some (.iload_n 3, 1)) none)) (cond (Nat.ble pc 194) (cond (Nat.beq pc 194) (some (.iconst 1, 1)) none) (cond (Nat.beq pc 195) (some (.iadd, 1)) none)))) (cond (Nat.ble pc 198) (cond (Nat.ble pc 196) (cond (Nat.beq pc 196) (some (.iaload, 1)) none) (cond (Nat.ble pc 197) (cond (Nat.beq pc 197) (some (.aload_n 0, 1)) none) (cond (Nat.beq pc 198) (some (.iload_n 3, 1)) none))) (cond (Nat.ble pc 200) (cond (Nat.ble pc 199) (cond (Nat.beq pc 199) (some (.iconst 2, 1)) none) (cond (Nat.beq pc 200) (some (.iadd, 1)) none)) (cond (Nat.ble pc 201) (cond (Nat.beq pc 201) (some (.iaload, 1)) none) (cond (Nat.beq pc 202) (some (.aload_n 0, 1)) none)))))))) (cond (Nat.ble pc 266) (cond (Nat.ble pc 234) (cond (Nat.ble pc 219) (cond (Nat.ble pc 208) (cond (Nat.ble pc 205) (cond (Nat.ble pc 203) (cond (Nat.beq pc 203) (some (.iload_n 3, 1)) none) (cond (Nat.ble pc 204) (cond (Nat.beq pc 204) (some (.iconst 3, 1)) none) (cond (Nat.beq pc 205) (some (.iadd, 1)) none))) (cond (Nat.ble pc 206) (cond (Nat.beq pc 206) (some (.iaload, 1)) none) (cond (Nat.ble pc 207) (cond (Nat.beq pc 207) (some (.aload_n 0, 1)) none) (cond (Nat.beq pc 208) (some (.iload_n 3, 1)) none)))) (cond (Nat.ble pc 211) (cond (Nat.ble pc 209) (cond (Nat.beq pc 209) (some (.iconst 4, 1)) none) (cond (Nat.ble pc 210) (cond (Nat.beq pc 210) (some (.iadd, 1)) none) (cond (Nat.beq pc 211) (some (.iaload, 1)) none))) (cond (Nat.ble pc 215) (cond (Nat.ble pc 212) (cond (Nat.beq pc 212) (some (.invokevirtual 24, 3)) none) (cond (Nat.beq pc 215) (some (.if_icmp .eq 409, 3)) none)) (cond (Nat.ble pc 218) (cond (Nat.beq pc 218) (some (.iconst 0, 1)) none) (cond (Nat.beq pc 219) (some (.ireturn, 1)) none))))) (cond (Nat.ble pc 226) (cond (Nat.ble pc 222) (cond (Nat.ble pc 220) (cond (Nat.beq pc 220) (some (.aload_n 1, 1)) none) (cond (Nat.ble pc 221) (cond (Nat.beq pc 221) (some (.aload_n 0, 1)) none) (cond (Nat.beq pc 222) (some (.iload_n 3, 1)) none))) (cond (Nat.ble pc 224) (cond (Nat.ble pc 223) (cond (Nat.beq pc 223) (some (.iconst 1, 1)) none) (cond (Nat.beq pc 224) (some (.iadd, 1)) none)) (cond (Nat.ble pc 225) (cond (Nat.beq pc 225) (some (.iaload, 1)) none) (cond (Nat.beq pc 226) (some (.aload_n 0, 1)) none)))) (cond (Nat.ble pc 229) (cond (Nat.ble pc 227) (cond (Nat.beq pc 227) (some (.iload_n 3, 1)) none) (cond (Nat.ble pc 228) (cond (Nat.beq pc 228) (some (.iconst 2, 1)) none) (cond (Nat.beq pc 229) (some (.iadd, 1)) none))) (cond (Nat.ble pc 231) (cond (Nat.ble pc 230) (cond (Nat.beq pc 230) (some (.iaload, 1)) none) (cond (Nat.beq pc 231) (some (.i2l, 1)) none)) (cond (Nat.ble pc 232) (cond (Nat.beq pc 232) (some (.bipush 32, 2)) none) (cond (Nat.beq pc 234) (some (.lshl, 1)) none)))))) (cond (Nat.ble pc 251) (cond (Nat.ble pc 240) (cond (Nat.ble pc 237) (cond (Nat.ble pc 235) (cond (Nat.beq pc 235) (some (.aload_n 0, 1)) none) (cond (Nat.ble pc 236) (cond (Nat.beq pc 236) (some (.iload_n 3, 1)) none) (cond (Nat.beq pc 237) (some (.iconst 3, 1)) none))) (cond (Nat.ble pc 238) (cond (Nat.beq pc 238) (some (.iadd, 1)) none) (cond (Nat.ble pc 239) (cond (Nat.beq pc 239) (some (.iaload, 1)) none) (cond (Nat.beq pc 240) (some (.i2l, 1)) none)))) (cond (Nat.ble pc 245) (cond (Nat.ble pc 241) (cond (Nat.beq pc 241) (some (.ldc2_w 13, 3)) none) (cond (Nat.ble pc 244) (cond (Nat.beq pc 244) (some (.land, 1)) none) (cond (Nat.beq pc 245) (some (.lor, 1)) none))) (cond (Nat.ble pc 249) (cond (Nat.ble pc 246) (cond (Nat.beq pc 246) (some (.invokevirtual 25, 3)) none) (cond (Nat.beq pc 249) (some (.aload_n 2, 1)) none)) (cond (Nat.ble pc 250) (cond (Nat.beq pc 250) (some (.aload_n 0, 1)) none) (cond (Nat.beq pc 251) (some (.iload_n 3, 1)) none))))) (cond (Nat.ble pc 258) (cond (Nat.ble pc 254) (cond (Nat.ble pc 252) (cond (Nat.beq pc 252) (some (.iconst 1, 1)) none) (cond (Nat.ble pc 253) (cond (Nat.beq pc 253) (some (.iadd, 1)) none) (cond (Nat.beq pc 254) (some (.iaload, 1)) none))) (cond (Nat.ble pc 256) (cond (Nat.ble pc 255) (cond (Nat.beq pc 255) (some (.aload_n 0, 1)) none) (cond (Nat.beq pc 256) (some (.iload_n 3, 1)) none)) (cond (Nat.ble pc 257) (cond (Nat.beq pc 257) (some (.iconst 2, 1)) none) (cond (Nat.beq pc 258) (some (.iadd, 1)) none)))) (cond (Nat.ble pc 261) (cond (Nat.ble pc 259) (cond (Nat.beq pc 259) (some (.iaload, 1)) none) (cond (Nat.ble pc 260) (cond (Nat.beq pc 260) (some (.i2l, 1)) none) (cond (Nat.beq pc 261) (some (.bipush 32, 2)) none))) (cond (Nat.ble pc 264) (cond (Nat.ble pc 263) (cond (Nat.beq pc 263) (some (.lshl, 1)) none) (cond (Nat.beq pc 264) (some (.aload_n 0, 1)) none)) (cond (Nat.ble pc 265) (cond (Nat.beq pc 265) (some (.iload_n 3, 1)) none) (cond (Nat.beq pc 266) (some (.iconst 3, 1)) none))))))) (cond (Nat.ble pc 305) (cond (Nat.ble pc 285) (cond (Nat.ble pc 274) (cond (Nat.ble pc 269) (cond (Nat.ble pc 267) (cond (Nat.beq pc 267) (some (.iadd, 1)) none) (cond (Nat.ble pc 268) (cond (Nat.beq pc 268) (some (.iaload, 1)) none) (cond (Nat.beq pc 269) (some (.i2l, 1)) none))) (cond (Nat.ble pc 270) (cond (Nat.beq pc 270) (some (.ldc2_w 13, 3)) none) (cond (Nat.ble pc 273) (cond (Nat.beq pc 273) (some (.land, 1)) none) (cond (Nat.beq pc 274) (some (.lor, 1)) none)))) (cond (Nat.ble pc 281) (cond (Nat.ble pc 275) (cond (Nat.beq pc 275) (some (.invokevirtual 29, 3)) none) (cond (Nat.ble pc 278) (cond (Nat.beq pc 278) (some (.if_icmp .eq 346, 3)) none) (cond (Nat.beq pc 281) (some (.iconst 0, 1)) none))) (cond (Nat.ble pc 283) (cond (Nat.ble pc 282) (cond (Nat.beq pc 282) (some (.ireturn, 1)) none) (cond (Nat.beq pc 283) (some (.aload_n 1, 1)) none)) (cond (Nat.ble pc 284) (cond (Nat.beq pc 284) (some (.aload_n 0, 1)) none) (cond (Nat.beq pc 285) (some (.iload_n 3, 1)) none))))) (cond (Nat.ble pc 294) (cond (Nat.ble pc 288) (cond (Nat.ble pc 286) (cond (Nat.beq pc 286) (some (.iconst 1, 1)) none) (cond (Nat.ble pc 287) (cond (Nat.beq pc 287) (some (.iadd, 1)) none) (cond (Nat.beq pc 288) (some (.iaload, 1)) none))) (cond (Nat.ble pc 292) (cond (Nat.ble pc 289) (cond (Nat.beq pc 289) (some (.invokevirtual 30, 3)) none) (cond (Nat.beq pc 292) (some (.aload_n 2, 1)) none)) (cond (Nat.ble pc 293) (cond (Nat.beq pc 293) (some (.aload_n 0, 1)) none) (cond (Nat.beq pc 294) (some (.iload_n 3, 1)) none)))) (cond (Nat.ble pc 297) (cond (Nat.ble pc 295) (cond (Nat.beq pc 295) (some (.iconst 1, 1)) none) (cond (Nat.ble pc 296) (cond (Nat.beq pc 296) (some (.iadd, 1)) none) (cond (Nat.beq pc 297) (some (.iaload, 1)) none))) (cond (Nat.ble pc 301) (cond (Nat.ble pc 298) (cond (Nat.beq pc 298) (some (.invokevirtual 34, 3)) none) (cond (Nat.beq pc 301) (some (.if_icmp .eq 323, 3)) none)) (cond (Nat.ble pc 304) (cond (Nat.beq pc 304) (some (.iconst 0, 1)) none) (cond (Nat.beq pc 305) (some (.ireturn, 1)) none)))))) (cond (Nat.ble pc 320) (cond (Nat.ble pc 311) (cond (Nat.ble pc 308) (cond (Nat.ble pc 306) (cond (Nat.beq pc 306) (some (.aload_n 1, 1)) none) (cond (Nat.ble pc 307) (cond (Nat.beq pc 307) (some (.aload_n 0, 1)) none) (cond (Nat.beq pc 308) (some (.iload_n 3, 1)) none))) (cond (Nat.ble pc 309) (cond (Nat.beq pc 309) (some (.iconst 1, 1)) none) (cond (Nat.ble pc 310) (cond (Nat.beq pc 310) (some (.iadd, 1)) none) (cond (Nat.beq pc 311) (some (.iaload, 1)) none)))) (cond (Nat.ble pc 316) (cond (Nat.ble pc 312) (cond (Nat.beq pc 312) (some (.invokevirtual 35, 3)) none) (cond (Nat.ble pc 315) (cond (Nat.beq pc 315) (some (.aload_n 2, 1)) none) (cond (Nat.beq pc 316) (some (.aload_n 0, 1)) none))) (cond (Nat.ble pc 318) (cond (Nat.ble pc 317) (cond (Nat.beq pc 317) (some (.iload_n 3, 1)) none) (cond (Nat.beq pc 318) (some (.iconst 1, 1)) none)) (cond (Nat.ble pc 319) (cond (Nat.beq pc 319) (some (.iadd, 1)) none) (cond (Nat.beq pc 320) (some (.iaload, 1)) none))))) (cond (Nat.ble pc 331) (cond (Nat.ble pc 327) (cond (Nat.ble pc 321) (cond (Nat.beq pc 321) (some (.invokevirtual 38, 3)) none) (cond (Nat.ble pc 324) (cond (Nat.beq pc 324) (some (.if_icmp .eq 300, 3)) none) (cond (Nat.beq pc 327) (some (.iconst 0, 1)) none))) (cond (Nat.ble pc 329) (cond (Nat.ble pc 328) (cond (Nat.beq pc 328) (some (.ireturn, 1)) none) (cond (Nat.beq pc 329) (some (.aload_n 1, 1)) none)) (cond (Nat.ble pc 330) (cond (Nat.beq pc 330) (some (.aload_n 0, 1)) none) (cond (Nat.beq pc 331) (some (.iload_n 3, 1)) none)))) (cond (Nat.ble pc 334) (cond (Nat.ble pc 332) (cond (Nat.beq pc 332) (some (.iconst 1, 1)) none) (cond (Nat.ble pc 333) (cond (Nat.beq pc 333) (some (.iadd, 1)) none) (cond (Nat.beq pc 334) (some (.iaload, 1)) none))) (cond (Nat.ble pc 338) (cond (Nat.ble pc 335) (cond (Nat.beq pc 335) (some (.invokevirtual 39, 3)) none) (cond (Nat.beq pc 338) (some (.aload_n 2, 1)) none)) (cond (Nat.ble pc 339) (cond (Nat.beq pc 339) (some (.aload_n 0, 1)) none) (cond (Nat.beq pc 340) (some (.iload_n 3, 1)) none))))))))) (cond (Nat.ble pc 481) (cond (Nat.ble pc 409) (cond (Nat.ble pc 376) (cond (Nat.ble pc 357) (cond (Nat.ble pc 348) (cond (Nat.ble pc 343) (cond (Nat.ble pc 341) (cond (Nat.beq pc 341) (some (.iconst 1, 1)) none) (cond (Nat.ble pc 342) (cond (Nat.beq pc 342) (some (.iadd, 1)) none) (cond (Nat.beq pc 343) (some (.iaload, 1)) none))) (cond (Nat.ble pc 344) (cond (Nat.beq pc 344) (some (.invokevirtual 43, 3)) none) (cond (Nat.ble pc 347) (cond (Nat.beq pc 347) (some (.lcmp, 1)) none) (cond (Nat.beq pc 348) (some (.ifCond .eq 276, 3)) none)))) (cond (Nat.ble pc 353) (cond (Nat.ble pc 351) (cond (Nat.beq pc 351) (some (.iconst 0, 1)) none) (cond (Nat.ble pc 352) (cond (Nat.beq pc 352) (some (.ireturn, 1)) none) (cond (Nat.beq pc 353) (some (.aload_n 1, 1)) none))) (cond (Nat.ble pc 355) (cond (Nat.ble pc 354) (cond (Nat.beq pc 354) (some (.aload_n 0, 1)) none) (cond (Nat.beq pc 355) (some (.iload_n 3, 1)) none)) (cond (Nat.ble pc 356) (cond (Nat.beq pc 356) (some (.iconst 1, 1)) none) (cond (Nat.beq pc 357) (some (.iadd, 1)) none))))) (cond (Nat.ble pc 365) (cond (Nat.ble pc 362) (cond (Nat.ble pc 358) (cond (Nat.beq pc 358) (some (.iaload, 1)) none) (cond (Nat.ble pc 359) (cond (Nat.beq pc 359) (some (.invokevirtual 44, 3)) none) (cond (Nat.beq pc 362) (some (.aload_n 2, 1)) none))) (cond (Nat.ble pc 363) (cond (Nat.beq pc 363) (some (.aload_n 0, 1)) none) (cond (Nat.ble pc 364) (cond (Nat.beq pc 364) (some (.iload_n 3, 1)) none) (cond (Nat.beq pc 365) (some (.iconst 1, 1)) none)))) (cond (Nat.ble pc 368) (cond (Nat.ble pc 366) (cond (Nat.beq pc 366) (some (.iadd, 1)) none) (cond (Nat.ble pc 367) (cond (Nat.beq pc 367) (some (.iaload, 1)) none) (cond (Nat.beq pc 368) (some (.invokevirtual 47, 3)) none))) (cond (Nat.ble pc 374) (cond (Nat.ble pc 371) (cond (Nat.beq pc 371) (some (.if_icmp .eq 253, 3)) none) (cond (Nat.beq pc 374) (some (.iconst 0, 1)) none)) (cond (Nat.ble pc 375) (cond (Nat.beq pc 375) (some (.ireturn, 1)) none) (cond (Nat.beq pc 376) (some (.aload_n 1, 1)) none)))))) (cond (Nat.ble pc 391) (cond (Nat.ble pc 382) (cond (Nat.ble pc 379) (cond (Nat.ble pc 377) (cond (Nat.beq pc 377) (some (.aload_n 0, 1)) none) (cond (Nat.ble pc 378) (cond (Nat.beq pc 378) (some (.iload_n 3, 1)) none) (cond (Nat.beq pc 379) (some (.iconst 1, 1)) none))) (cond (Nat.ble pc 380) (cond (Nat.beq pc 380) (some (.iadd, 1)) none) (cond (Nat.ble pc 381) (cond (Nat.beq pc 381) (some (.iaload, 1)) none) (cond (Nat.beq pc 382) (some (.aload_n 0, 1)) none)))) (cond (Nat.ble pc 385) (cond (Nat.ble pc 383) (cond (Nat.beq pc 383) (some (.iload_n 3, 1)) none) (cond (Nat.ble pc 384) (cond (Nat.beq pc 384) (some (.iconst 2, 1)) none) (cond (Nat.beq pc 385) (some (.iadd, 1)) none))) (cond (Nat.ble pc 387) (cond (Nat.ble pc 386) (cond (Nat.beq pc 386) (some (.iaload, 1)) none) (cond (Nat.beq pc 387) (some (.invokevirtual 48, 3)) none)) (cond (Nat.ble pc 390) (cond (Nat.beq pc 390) (some (.aload_n 2, 1)) none) (cond (Nat.beq pc 391) (some (.aload_n 0, 1)) none))))) (cond (Nat.ble pc 398) (cond (Nat.ble pc 394) (cond (Nat.ble pc 392) (cond (Nat.beq pc 392) (some (.iload_n 3, 1)) none) (cond (Nat.ble pc 393) (cond (Nat.beq pc 393) (some (.iconst 1, 1)) none) (cond (Nat.beq pc 394) (some (.iadd, 1)) none))) (cond (Nat.ble pc 396) (cond (Nat.ble pc 395) (cond (Nat.beq pc 395) (some (.iaload, 1)) none) (cond (Nat.beq pc 396) (some (.aload_n 0, 1)) none)) (cond (Nat.ble pc 397) (cond (Nat.beq pc 397) (some (.iload_n 3, 1)) none) (cond (Nat.beq pc 398) (some (.iconst 2, 1)) none)))) (cond (Nat.ble pc 401) (cond (Nat.ble pc 399) (cond (Nat.beq pc 399) (some (.iadd, 1)) none) (cond (Nat.ble pc 400) (cond (Nat.beq pc 400) (some (.iaload, 1)) none) (cond (Nat.beq pc 401) (some (.invokevirtual 52, 3)) none))) (cond (Nat.ble pc 407) (cond (Nat.ble pc 404) (cond (Nat.beq pc 404) (some (.if_icmp .eq 220, 3)) none) (cond (Nat.beq pc 407) (some (.iconst 0, 1)) none)) (cond (Nat.ble pc 408) (cond (Nat.beq pc 408) (some (.ireturn, 1)) none) (cond (Nat.beq pc 409) (some (.aload_n 1, 1)) none))))))) (cond (Nat.ble pc 442) (cond (Nat.ble pc 423) (cond (Nat.ble pc 415) (cond (Nat.ble pc 412) (cond (Nat.ble pc 410) (cond (Nat.beq pc 410) (some (.aload_n 0, 1)) none) (cond (Nat.ble pc 411) (cond (Nat.beq pc 411) (some (.iload_n 3, 1)) none) (cond (Nat.beq pc 412) (some (.iconst 1, 1)) none))) (cond (Nat.ble pc 413) (cond (Nat.beq pc 413) (some (.iadd, 1)) none) (cond (Nat.ble pc 414) (cond (Nat.beq pc 414) (some (.iaload, 1)) none) (cond (Nat.beq pc 415) (some (.i2l, 1)) none)))) (cond (Nat.ble pc 419) (cond (Nat.ble pc 416) (cond (Nat.beq pc 416) (some (.bipush 32, 2)) none) (cond (Nat.ble pc 418) (cond (Nat.beq pc 418) (some (.lshl, 1)) none) (cond (Nat.beq pc 419) (some (.aload_n 0, 1)) none))) (cond (Nat.ble pc 421) (cond (Nat.ble pc 420) (cond (Nat.beq pc 420) (some (.iload_n 3, 1)) none) (cond (Nat.beq pc 421) (some (.iconst 2, 1)) none)) (cond (Nat.ble pc 422) (cond (Nat.beq pc 422) (some (.iadd, 1)) none) (cond (Nat.beq pc 423) (some (.iaload, 1)) none))))) (cond (Nat.ble pc 434) (cond (Nat.ble pc 428) (cond (Nat.ble pc 424) (cond (Nat.beq pc 424) (some (.i2l, 1)) none) (cond (Nat.ble pc 425) (cond (Nat.beq pc 425) (some (.ldc2_w 13, 3)) none) (cond (Nat.beq pc 428) (some (.land, 1)) none))) (cond (Nat.ble pc 430) (cond (Nat.ble pc 429) (cond (Nat.beq pc 429) (some (.lor, 1)) none) (cond (Nat.beq pc 430) (some (.invokevirtual 53, 3)) none)) (cond (Nat.ble pc 433) (cond (Nat.beq pc 433) (some (.aload_n 2, 1)) none) (cond (Nat.beq pc 434) (some (.aload_n 0, 1)) none)))) (cond (Nat.ble pc 437) (cond (Nat.ble pc 435) (cond (Nat.beq pc 435) (some (.iload_n 3, 1)) none) (cond (Nat.ble pc 436) (cond (Nat.beq pc 436) (some (.iconst 1, 1)) none) (cond (Nat.beq pc 437) (some (.iadd, 1)) none))) (cond (Nat.ble pc 439) (cond (Nat.ble pc 438) (cond (Nat.beq pc 438) (some (.iaload, 1)) none) (cond (Nat.beq pc 439) (some (.i2l, 1)) none)) (cond (Nat.ble pc 440) (cond (Nat.beq pc 440) (some (.bipush 32, 2)) none) (cond (Nat.beq pc 442) (some (.lshl, 1)) none)))))) (cond (Nat.ble pc 461) (cond (Nat.ble pc 448) (cond (Nat.ble pc 445) (cond (Nat.ble pc 443) (cond (Nat.beq pc 443) (some (.aload_n 0, 1)) none) (cond (Nat.ble pc 444) (cond (Nat.beq pc 444) (some (.iload_n 3, 1)) none) (cond (Nat.beq pc 445) (some (.iconst 2, 1)) none))) (cond (Nat.ble pc 446) (cond (Nat.beq pc 446) (some (.iadd, 1)) none) (cond (Nat.ble pc 447) (cond (Nat.beq pc 447) (some (.iaload, 1)) none) (cond (Nat.beq pc 448) (some (.i2l, 1)) none)))) (cond (Nat.ble pc 453) (cond (Nat.ble pc 449) (cond (Nat.beq pc 449) (some (.ldc2_w 13, 3)) none) (cond (Nat.ble pc 452) (cond (Nat.beq pc 452) (some (.land, 1)) none) (cond (Nat.beq pc 453) (some (.lor, 1)) none))) (cond (Nat.ble pc 457) (cond (Nat.ble pc 454) (cond (Nat.beq pc 454) (some (.invokevirtual 57, 3)) none) (cond (Nat.beq pc 457) (some (.if_icmp .eq 167, 3)) none)) (cond (Nat.ble pc 460) (cond (Nat.beq pc 460) (some (.iconst 0, 1)) none) (cond (Nat.beq pc 461) (some (.ireturn, 1)) none))))) (cond (Nat.ble pc 468) (cond (Nat.ble pc 464) (cond (Nat.ble pc 462) (cond (Nat.beq pc 462) (some (.aload_n 1, 1)) none) (cond (Nat.ble pc 463) (cond (Nat.beq pc 463) (some (.aload_n 0, 1)) none) (cond (Nat.beq pc 464) (some (.iload_n 3, 1)) none))) (cond (Nat.ble pc 466) (cond (Nat.ble pc 465) (cond (Nat.beq pc 465) (some (.iconst 1, 1)) none) (cond (Nat.beq pc 466) (some (.iadd, 1)) none)) (cond (Nat.ble pc 467) (cond (Nat.beq pc 467) (some (.iaload, 1)) none) (cond (Nat.beq pc 468) (some (.ifCond .eq 7, 3)) none)))) (cond (Nat.ble pc 475) (cond (Nat.ble pc 471) (cond (Nat.beq pc 471) (some (.iconst 1, 1)) none) (cond (Nat.ble pc 472) (cond (Nat.beq pc 472) (some (.goto 4, 3)) none) (cond (Nat.beq pc 475) (some (.iconst 0, 1)) none))) (cond (Nat.ble pc 479) (cond (Nat.ble pc 476) (cond (Nat.beq pc 476) (some (.invokevirtual 58, 3)) none) (cond (Nat.beq pc 479) (some (.aload_n 2, 1)) none)) (cond (Nat.ble pc 480) (cond (Nat.beq pc 480) (some (.aload_n 0, 1)) none) (cond (Nat.beq pc 481) (some (.iload_n 3, 1)) none)))))))) (cond (Nat.ble pc 561) (cond (Nat.ble pc 524) (cond (Nat.ble pc 502) (cond (Nat.ble pc 489) (cond (Nat.ble pc 484) (cond (Nat.ble pc 482) (cond (Nat.beq pc 482) (some (.iconst 1, 1)) none) (cond (Nat.ble pc 483) (cond (Nat.beq pc 483) (some (.iadd, 1)) none) (cond (Nat.beq pc 484) (some (.iaload, 1)) none))) (cond (Nat.ble pc 485) (cond (Nat.beq pc 485) (some (.ifCond .eq 7, 3)) none) (cond (Nat.ble pc 488) (cond (Nat.beq pc 488) (some (.iconst 1, 1)) none) (cond (Nat.beq pc 489) (some (.goto 4, 3)) none)))) (cond (Nat.ble pc 496) (cond (Nat.ble pc 492) (cond (Nat.beq pc 492) (some (.iconst 0, 1)) none) (cond (Nat.ble pc 493) (cond (Nat.beq pc 493) (some (.invokevirtual 62, 3)) none) (cond (Nat.beq pc 496) (some (.if_icmp .eq 128, 3)) none))) (cond (Nat.ble pc 500) (cond (Nat.ble pc 499) (cond (Nat.beq pc 499) (some (.iconst 0, 1)) none) (cond (Nat.beq pc 500) (some (.ireturn, 1)) none)) (cond (Nat.ble pc 501) (cond (Nat.beq pc 501) (some (.aload_n 1, 1)) none) (cond (Nat.beq pc 502) (some (.invokevirtual 63, 3)) none))))) (cond (Nat.ble pc 515) (cond (Nat.ble pc 509) (cond (Nat.ble pc 505) (cond (Nat.beq pc 505) (some (.aload_n 2, 1)) none) (cond (Nat.ble pc 506) (cond (Nat.beq pc 506) (some (.invokevirtual 67, 3)) none) (cond (Nat.beq pc 509) (some (.if_icmp .eq 115, 3)) none))) (cond (Nat.ble pc 513) (cond (Nat.ble pc 512) (cond (Nat.beq pc 512) (some (.iconst 0, 1)) none) (cond (Nat.beq pc 513) (some (.ireturn, 1)) none)) (cond (Nat.ble pc 514) (cond (Nat.beq pc 514) (some (.aload_n 1, 1)) none) (cond (Nat.beq pc 515) (some (.aload_n 0, 1)) none)))) (cond (Nat.ble pc 518) (cond (Nat.ble pc 516) (cond (Nat.beq pc 516) (some (.iload_n 3, 1)) none) (cond (Nat.ble pc 517) (cond (Nat.beq pc 517) (some (.iconst 1, 1)) none) (cond (Nat.beq pc 518) (some (.iadd, 1)) none))) (cond (Nat.ble pc 520) (cond (Nat.ble pc 519) (cond (Nat.beq pc 519) (some (.iaload, 1)) none) (cond (Nat.beq pc 520) (some (.invokevirtual 68, 3)) none)) (cond (Nat.ble pc 523) (cond (Nat.beq pc 523) (some (.aload_n 2, 1)) none) (cond (Nat.beq pc 524) (some (.aload_n 0, 1)) none)))))) (cond (Nat.ble pc 541) (cond (Nat.ble pc 532) (cond (Nat.ble pc 527) (cond (Nat.ble pc 525) (cond (Nat.beq pc 525) (some (.iload_n 3, 1)) none) (cond (Nat.ble pc 526) (cond (Nat.beq pc 526) (some (.iconst 1, 1)) none) (cond (Nat.beq pc 527) (some (.iadd, 1)) none))) (cond (Nat.ble pc 528) (cond (Nat.beq pc 528) (some (.iaload, 1)) none) (cond (Nat.ble pc 529) (cond (Nat.beq pc 529) (some (.invokevirtual 71, 3)) none) (cond (Nat.beq pc 532) (some (.if_icmp .eq 92, 3)) none)))) (cond (Nat.ble pc 537) (cond (Nat.ble pc 535) (cond (Nat.beq pc 535) (some (.iconst 0, 1)) none) (cond (Nat.ble pc 536) (cond (Nat.beq pc 536) (some (.ireturn, 1)) none) (cond (Nat.beq pc 537) (some (.aload_n 1, 1)) none))) (cond (Nat.ble pc 539) (cond (Nat.ble pc 538) (cond (Nat.beq pc 538) (some (.aload_n 0, 1)) none) (cond (Nat.beq pc 539) (some (.iload_n 3, 1)) none)) (cond (Nat.ble pc 540) (cond (Nat.beq pc 540) (some (.iconst 1, 1)) none) (cond (Nat.beq pc 541) (some (.iadd, 1)) none))))) (cond (Nat.ble pc 550) (cond (Nat.ble pc 546) (cond (Nat.ble pc 542) (cond (Nat.beq pc 542) (some (.iaload, 1)) none) (cond (Nat.ble pc 543) (cond (Nat.beq pc 543) (some (.invokevirtual 72, 3)) none) (cond (Nat.beq pc 546) (some (.aload_n 2, 1)) none))) (cond (Nat.ble pc 548) (cond (Nat.ble pc 547) (cond (Nat.beq pc 547) (some (.aload_n 0, 1)) none) (cond (Nat.beq pc 548) (some (.iload_n 3, 1)) none)) (cond (Nat.ble pc 549) (cond (Nat.beq pc 549) (some (.iconst 1, 1)) none) (cond (Nat.beq pc 550) (some (.iadd, 1)) none)))) (cond (Nat.ble pc 555) (cond (Nat.ble pc 551) (cond (Nat.beq pc 551) (some (.iaload, 1)) none) (cond (Nat.ble pc 552) (cond (Nat.beq pc 552) (some (.invokevirtual 75, 3)) none) (cond (Nat.beq pc 555) (some (.lcmp, 1)) none))) (cond (Nat.ble pc 559) (cond (Nat.ble pc 556) (cond (Nat.beq pc 556) (some (.ifCond .eq 68, 3)) none) (cond (Nat.beq pc 559) (some (.iconst 0, 1)) none)) (cond (Nat.ble pc 560) (cond (Nat.beq pc 560) (some (.ireturn, 1)) none) (cond (Nat.beq pc 561) (some (.aload_n 1, 1)) none))))))) (cond (Nat.ble pc 593) (cond (Nat.ble pc 575) (cond (Nat.ble pc 567) (cond (Nat.ble pc 564) (cond (Nat.ble pc 562) (cond (Nat.beq pc 562) (some (.aload_n 0, 1)) none) (cond (Nat.ble pc 563) (cond (Nat.beq pc 563) (some (.iload_n 3, 1)) none) (cond (Nat.beq pc 564) (some (.iconst 1, 1)) none))) (cond (Nat.ble pc 565) (cond (Nat.beq pc 565) (some (.iadd, 1)) none) (cond (Nat.ble pc 566) (cond (Nat.beq pc 566) (some (.iaload, 1)) none) (cond (Nat.beq pc 567) (some (.aload_n 0, 1)) none)))) (cond (Nat.ble pc 570) (cond (Nat.ble pc 568) (cond (Nat.beq pc 568) (some (.iload_n 3, 1)) none) (cond (Nat.ble pc 569) (cond (Nat.beq pc 569) (some (.iconst 2, 1)) none) (cond (Nat.beq pc 570) (some (.iadd, 1)) none))) (cond (Nat.ble pc 572) (cond (Nat.ble pc 571) (cond (Nat.beq pc 571) (some (.iaload, 1)) none) (cond (Nat.beq pc 572) (some (.i2l, 1)) none)) (cond (Nat.ble pc 573) (cond (Nat.beq pc 573) (some (.bipush 32, 2)) none) (cond (Nat.beq pc 575) (some (.lshl, 1)) none))))) (cond (Nat.ble pc 582) (cond (Nat.ble pc 578) (cond (Nat.ble pc 576) (cond (Nat.beq pc 576) (some (.aload_n 0, 1)) none) (cond (Nat.ble pc 577) (cond (Nat.beq pc 577) (some (.iload_n 3, 1)) none) (cond (Nat.beq pc 578) (some (.iconst 3, 1)) none))) (cond (Nat.ble pc 580) (cond (Nat.ble pc 579) (cond (Nat.beq pc 579) (some (.iadd, 1)) none) (cond (Nat.beq pc 580) (some (.iaload, 1)) none)) (cond (Nat.ble pc 581) (cond (Nat.beq pc 581) (some (.i2l, 1)) none) (cond (Nat.beq pc 582) (some (.ldc2_w 13, 3)) none)))) (cond (Nat.ble pc 587) (cond (Nat.ble pc 585) (cond (Nat.beq pc 585) (some (.land, 1)) none) (cond (Nat.ble pc 586) (cond (Nat.beq pc 586) (some (.lor, 1)) none) (cond (Nat.beq pc 587) (some (.invokevirtual 76, 3)) none))) (cond (Nat.ble pc 591) (cond (Nat.ble pc 590) (cond (Nat.beq pc 590) (some (.aload_n 2, 1)) none) (cond (Nat.beq pc 591) (some (.aload_n 0, 1)) none)) (cond (Nat.ble pc 592) (cond (Nat.beq pc 592) (some (.iload_n 3, 1)) none) (cond (Nat.beq pc 593) (some (.iconst 1, 1)) none)))))) (cond (Nat.ble pc 607) (cond (Nat.ble pc 599) (cond (Nat.ble pc 596) (cond (Nat.ble pc 594) (cond (Nat.beq pc 594) (some (.iadd, 1)) none) (cond (Nat.ble pc 595) (cond (Nat.beq pc 595) (some (.iaload, 1)) none) (cond (Nat.beq pc 596) (some (.aload_n 0, 1)) none))) (cond (Nat.ble pc 597) (cond (Nat.beq pc 597) (some (.iload_n 3, 1)) none) (cond (Nat.ble pc 598) (cond (Nat.beq pc 598) (some (.iconst 2, 1)) none) (cond (Nat.beq pc 599) (some (.iadd, 1)) none)))) (cond (Nat.ble pc 602) (cond (Nat.ble pc 600) (cond (Nat.beq pc 600) (some (.iaload, 1)) none) (cond (Nat.ble pc 601) (cond (Nat.beq pc 601) (some (.i2l, 1)) none) (cond (Nat.beq pc 602) (some (.bipush 32, 2)) none))) (cond (Nat.ble pc 605) (cond (Nat.ble pc 604) (cond (Nat.beq pc 604) (some (.lshl, 1)) none) (cond (Nat.beq pc 605) (some (.aload_n 0, 1)) none)) (cond (Nat.ble pc 606) (cond (Nat.beq pc 606) (some (.iload_n 3, 1)) none) (cond (Nat.beq pc 607) (some (.iconst 3, 1)) none))))) (cond (Nat.ble pc 616) (cond (Nat.ble pc 610) (cond (Nat.ble pc 608) (cond (Nat.beq pc 608) (some (.iadd, 1)) none) (cond (Nat.ble pc 609) (cond (Nat.beq pc 609) (some (.iaload, 1)) none) (cond (Nat.beq pc 610) (some (.i2l, 1)) none))) (cond (Nat.ble pc 614) (cond (Nat.ble pc 611) (cond (Nat.beq pc 611) (some (.ldc2_w 13, 3)) none) (cond (Nat.beq pc 614) (some (.land, 1)) none)) (cond (Nat.ble pc 615) (cond (Nat.beq pc 615) (some (.lor, 1)) none) (cond (Nat.beq pc 616) (some (.invokevirtual 79, 3)) none)))) (cond (Nat.ble pc 623) (cond (Nat.ble pc 619) (cond (Nat.beq pc 619) (some (.if_icmp .eq 5, 3)) none) (cond (Nat.ble pc 622) (cond (Nat.beq pc 622) (some (.iconst 0, 1)) none) (cond (Nat.beq pc 623) (some (.ireturn, 1)) none))) (cond (Nat.ble pc 627) (cond (Nat.ble pc 624) (cond (Nat.beq pc 624) (some (.iinc 3 5, 3)) none) (cond (Nat.beq pc 627) (some (.goto (-609), 3)) none)) (cond (Nat.ble pc 630) (cond (Nat.beq pc 630) (some (.iconst 1, 1)) none) (cond (Nat.beq pc 631) (some (.ireturn, 1)) none))))))))))
set_option maxRecDepth 100000 in
theorem zd109_0 : (List.range' 0 123).all (fun pc => match zI109 pc with | some q => decide (decode (zCode 109) pc = .ok q) | none => true) = true := by decide +kernel
set_option maxRecDepth 100000 in
theorem zd109_1 : (List.range' 123 51).all (fun pc => match zI109 pc with | some q => decide (decode (zCode 109) pc = .ok q) | none => true) = true := by decide +kernel
set_option maxRecDepth 100000 in
theorem zd109_2 : (List.range' 174 46).all (fun pc => match zI109 pc with | some q => decide (decode (zCode 109) pc = .ok q) | none => true) = true := by decide +kernel
set_option maxRecDepth 100000 in
theorem zd109_3 : (List.range' 220 46).all (fun pc => match zI109 pc with | some q => decide (decode (zCode 109) pc = .ok q) | none => true) = true := by decide +kernel
set_option maxRecDepth 100000 in
theorem zd109_4 : (List.range' 266 54).all (fun pc => match zI109 pc with | some q => decide (decode (zCode 109) pc = .ok q) | none => true) = true := by decide +kernel
set_option maxRecDepth 100000 in
theorem zd109_5 : (List.range' 320 56).all (fun pc => match zI109 pc with | some q => decide (decode (zCode 109) pc = .ok q) | none => true) = true := by decide +kernel
set_option maxRecDepth 100000 in
theorem zd109_6 : (List.range' 376 47).all (fun pc => match zI109 pc with | some q => decide (decode (zCode 109) pc = .ok q) | none => true) = true := by decide +kernel
set_option maxRecDepth 100000 in
theorem zd109_7 : (List.range' 423 57).all (fun pc => match zI109 pc with | some q => decide (decode (zCode 109) pc = .ok q) | none => true) = true := by decide +kernel
set_option maxRecDepth 100000 in
theorem zd109_8 : (List.range' 480 60).all (fun pc => match zI109 pc with | some q => decide (decode (zCode 109) pc = .ok q) | none => true) = true := by decide +kernel
set_option maxRecDepth 100000 in
theorem zd109_9 : (List.range' 540 51).all (fun pc => match zI109 pc with | some q => decide (decode (zCode 109) pc = .ok q) | none => true) = true := by decide +kernel
set_option maxRecDepth 100000 in
theorem zd109_10 : (List.range' 591 41).all (fun pc => match zI109 pc with | some q => decide (decode (zCode 109) pc = .ok q) | none => true) = true := by decide +kernel
theorem zJ109 {pc : Nat} {q : Jvm.ClassFile.Instr × Nat} (h : zI109 pc = some q) : decode (zCode 109) pc = .ok q := by
  have hb := (z_gd (n := 632) (pc := pc) h).1
  by_cases c0 : pc < 123
  · exact z_ck zd109_0 (by omega) (by omega) h
  by_cases c1 : pc < 174
  · exact z_ck zd109_1 (by omega) (by omega) h
  by_cases c2 : pc < 220
  · exact z_ck zd109_2 (by omega) (by omega) h
  by_cases c3 : pc < 266
  · exact z_ck zd109_3 (by omega) (by omega) h
  by_cases c4 : pc < 320
  · exact z_ck zd109_4 (by omega) (by omega) h
  by_cases c5 : pc < 376
  · exact z_ck zd109_5 (by omega) (by omega) h
  by_cases c6 : pc < 423
  · exact z_ck zd109_6 (by omega) (by omega) h
  by_cases c7 : pc < 480
  · exact z_ck zd109_7 (by omega) (by omega) h
  by_cases c8 : pc < 540
  · exact z_ck zd109_8 (by omega) (by omega) h
  by_cases c9 : pc < 591
  · exact z_ck zd109_9 (by omega) (by omega) h
  exact z_ck zd109_10 (by omega) (by omega) h
end
section
/-! the decoded code of all methods -/
def zI (mi pc : Nat) : Option (Jvm.ClassFile.Instr × Nat) := cond (Nat.ble 110 mi) none (cond (Nat.ble mi 54) (cond (Nat.ble mi 26) (cond (Nat.ble mi 12) (cond (Nat.ble mi 5) (cond (Nat.ble mi 2) (cond (Nat.ble mi 0) (cond (Nat.beq mi 0) (zI0 pc) none) (cond (Nat.ble mi 1) (cond (Nat.beq mi 1) (zI1 pc) none) (cond (Nat.beq mi 2) (zI2 pc) none))) (cond (Nat.ble mi 3) (cond (Nat.beq mi 3) (zI3 pc) none) (cond (Nat.ble mi 4) (cond (Nat.beq mi 4) (zI4 pc) none) (cond (Nat.beq mi 5) (zI5 pc) none)))) (cond (Nat.ble mi 8) (cond (Nat.ble mi 6) (cond (Nat.beq mi 6) (zI6 pc) none) (cond (Nat.ble mi 7) (cond (Nat.beq mi 7) (zI7 pc) none) (cond (Nat.beq mi 8) (zI8 pc) none))) (cond (Nat.ble mi 10) (cond (Nat.ble mi 9) (cond (Nat.beq mi 9) (zI9 pc) none) (cond (Nat.beq mi 10) (zI10 pc) none)) (cond (Nat.ble mi 11) (cond (Nat.beq mi 11) (zI11 pc) none) (cond (Nat.beq mi 12) (zI12 pc) none))))) (cond (Nat.ble mi 19) (cond (Nat.ble mi 15) (cond (Nat.ble mi 13) (cond (Nat.beq mi 13) (zI13 pc) none) (cond (Nat.ble mi 14) (cond (Nat.beq mi 14) (zI14 pc) none) (cond (Nat.beq mi 15) (zI15 pc) none))) (cond (Nat.ble mi 17) (cond (Nat.ble mi 16) (cond (Nat.beq mi 16) (zI16 pc) none) (cond (Nat.beq mi 17) (zI17 pc) none)) (cond (Nat.ble mi 18) (cond (Nat.beq mi 18) (zI18 pc) none) (cond (Nat.beq mi 19) (zI19 pc) none)))) (cond (Nat.ble mi 22) (cond (Nat.ble mi 20) (cond (Nat.beq mi 20) (zI20 pc) none) (cond (Nat.ble mi 21) (cond (Nat.beq mi 21) (zI21 pc) none) (cond (Nat.beq mi 22) (zI22 pc) none))) (cond (Nat.ble mi 24) (cond (Nat.ble mi 23) (cond (Nat.beq mi 23) (zI23 pc) none) (cond (Nat.beq mi 24) (zI24 pc) none)) (cond (Nat.ble mi 25) (cond (Nat.beq mi 25) (zI25 pc) none) (cond (Nat.beq mi 26) (zI26 pc) none)))))) (cond (Nat.ble mi 40) (cond (Nat.ble mi 33) (cond (Nat.ble mi 29) (cond (Nat.ble mi 27) (cond (Nat.beq mi 27) (zI27 pc) none) (cond (Nat.ble mi 28) (cond (Nat.beq mi 28) (zI28 pc) none) (cond (Nat.beq mi 29) (zI29 pc) none))) (cond (Nat.ble mi 31) (cond (Nat.ble mi 30) (cond (Nat.beq mi 30) (zI30 pc) none) (cond (Nat.beq mi 31) (zI31 pc) none)) (cond (Nat.ble mi 32) (cond (Nat.beq mi 32) (zI32 pc) none) (cond (Nat.beq mi 33) (zI33 pc) none)))) (cond (Nat.ble mi 36) (cond (Nat.ble mi 34) (cond (Nat.beq mi 34) (zI34 pc) none) (cond (Nat.ble mi 35) (cond (Nat.beq mi 35) (zI35 pc) none) (cond (Nat.beq mi 36) (zI36 pc) none))) (cond (Nat.ble mi 38) (cond (Nat.ble mi 37) (cond (Nat.beq mi 37) (zI37 pc) none) (cond (Nat.beq mi 38) (zI38 pc) none)) (cond (Nat.ble mi 39) (cond (Nat.beq mi 39) (zI39 pc) none) (cond (Nat.beq mi 40) (zI40 pc) none))))) (cond (Nat.ble mi 47) (cond (Nat.ble mi 43) (cond (Nat.ble mi 41) (cond (Nat.beq mi 41) (zI41 pc) none) (cond (Nat.ble mi 42) (cond (Nat.beq mi 42) (zI42 pc) none) (cond (Nat.beq mi 43) (zI43 pc) none))) (cond (Nat.ble mi 45) (cond (Nat.ble mi 44) (cond (Nat.beq mi 44) (zI44 pc) none) (cond (Nat.beq mi 45) (zI45 pc) none)) (cond (Nat.ble mi 46) (cond (Nat.beq mi 46) (zI46 pc) none) (cond (Nat.beq mi 47) (zI47 pc) none)))) (cond (Nat.ble mi 50) (cond (Nat.ble mi 48) (cond (Nat.beq mi 48) (zI48 pc) none) (cond (Nat.ble mi 49) (cond (Nat.beq mi 49) (zI49 pc) none) (cond (Nat.beq mi 50) (zI50 pc) none))) (cond (Nat.ble mi 52) (cond (Nat.ble mi 51) (cond (Nat.beq mi 51) (zI51 pc) none) (cond (Nat.beq mi 52) (zI52 pc) none)) (cond (Nat.ble mi 53) (cond (Nat.beq mi 53) (zI53 pc) none) (cond (Nat.beq mi 54) (zI54 pc) none))))))) (cond (Nat.ble mi 81) (cond (Nat.ble mi 67) (cond (Nat.ble mi 60) (cond (Nat.ble mi 57) (cond (Nat.ble mi 55) (cond (Nat.beq mi 55) (zI55 pc) none) (cond (Nat.ble mi 56) (cond (Nat.beq mi 56) (zI56 pc) none) (cond (Nat.beq mi 57) (zI57 pc) none))) (cond (Nat.ble mi 58) (cond (Nat.beq mi 58) (zI58 pc) none) (cond (Nat.ble mi 59) (cond (Nat.beq mi 59) (zI59 pc) none) (cond (Nat.beq mi 60) (zI60 pc) none)))) (cond (Nat.ble mi 63) (cond (Nat.ble mi 61) (cond (Nat.beq mi 61) (zI61 pc) none) (cond (Nat.ble mi 62) (cond (Nat.beq mi 62) (zI62 pc) none) (cond (Nat.beq mi 63) (zI63 pc) none))) (cond (Nat.ble mi 65) (cond (Nat.ble mi 64) (cond (Nat.beq mi 64) (zI64 pc) none) (cond (Nat.beq mi 65) (zI65 pc) none)) (cond (Nat.ble mi 66) (cond (Nat.beq mi 66) (zI66 pc) none) (cond (Nat.beq mi 67) (zI67 pc) none))))) (cond (Nat.ble mi 74) (cond (Nat.ble mi 70) (cond (Nat.ble mi 68) (cond (Nat.beq mi 68) (zI68 pc) none) (cond (Nat.ble mi 69) (cond (Nat.beq mi 69) (zI69 pc) none) (cond (Nat.beq mi 70) (zI70 pc) none))) (cond (Nat.ble mi 72) (cond (Nat.ble mi 71) (cond (Nat.beq mi 71) (zI71 pc) none) (cond (Nat.beq mi 72) (zI72 pc) none)) (cond (Nat.ble mi 73) (cond (Nat.beq mi 73) (zI73 pc) none) (cond (Nat.beq mi 74) (zI74 pc) none)))) (cond (Nat.ble mi 77) (cond (Nat.ble mi 75) (cond (Nat.beq mi 75) (zI75 pc) none) (cond (Nat.ble mi 76) (cond (Nat.beq mi 76) (zI76 pc) none) (cond (Nat.beq mi 77) (zI77 pc) none))) (cond (Nat.ble mi 79) (cond (Nat.ble mi 78) (cond (Nat.beq mi 78) (zI78 pc) none) (cond (Nat.beq mi 79) (zI79 pc) none)) (cond (Nat.ble mi 80) (cond (Nat.beq mi 80) (zI80 pc) none) (cond (Nat.beq mi 81) (zI81 pc) none)))))) (cond (Nat.ble mi 95) (cond (Nat.ble mi 88) (cond (Nat.ble mi 84) (cond (Nat.ble mi 82) (cond (Nat.beq mi 82) (zI82 pc) none) (cond (Nat.ble mi 83) (cond (Nat.beq mi 83) (zI83 pc) none) (cond (Nat.beq mi 84) (zI84 pc) none))) (cond (Nat.ble mi 86) (cond (Nat.ble mi 85) (cond (Nat.beq mi 85) (zI85 pc) none) (cond (Nat.beq mi 86) (zI86 pc) none)) (cond (Nat.ble mi 87) (cond (Nat.beq mi 87) (zI87 pc) none) (cond (Nat.beq mi 88) (zI88 pc) none)))) (cond (Nat.ble mi 91) (cond (Nat.ble mi 89) (cond (Nat.beq mi 89) (zI89 pc) none) (cond (Nat.ble mi 90) (cond (Nat.beq mi 90) (zI90 pc) none) (cond (Nat.beq mi 91) (zI91 pc) none))) (cond (Nat.ble mi 93) (cond (Nat.ble mi 92) (cond (Nat.beq mi 92) (zI92 pc) none) (cond (Nat.beq mi 93) (zI93 pc) none)) (cond (Nat.ble mi 94) (cond (Nat.beq mi 94) (zI94 pc) none) (cond (Nat.beq mi 95) (zI95 pc) none))))) (cond (Nat.ble mi 102) (cond (Nat.ble mi 98) (cond (Nat.ble mi 96) (cond (Nat.beq mi 96) (zI96 pc) none) (cond (Nat.ble mi 97) (cond (Nat.beq mi 97) (zI97 pc) none) (cond (Nat.beq mi 98) (zI98 pc) none))) (cond (Nat.ble mi 100) (cond (Nat.ble mi 99) (cond (Nat.beq mi 99) (zI99 pc) none) (cond (Nat.beq mi 100) (zI100 pc) none)) (cond (Nat.ble mi 101) (cond (Nat.beq mi 101) (zI101 pc) none) (cond (Nat.beq mi 102) (zI102 pc) none)))) (cond (Nat.ble mi 105) (cond (Nat.ble mi 103) (cond (Nat.beq mi 103) (zI103 pc) none) (cond (Nat.ble mi 104) (cond (Nat.beq mi 104) (zI104 pc) none) (cond (Nat.beq mi 105) (zI105 pc) none))) (cond (Nat.ble mi 107) (cond (Nat.ble mi 106) (cond (Nat.beq mi 106) (zI106 pc) none) (cond (Nat.beq mi 107) (zI107 pc) none)) (cond (Nat.ble mi 108) (cond (Nat.beq mi 108) (zI108 pc) none) (cond (Nat.beq mi 109) (zI109 pc) none))))))))
theorem zI_ok : ∀ {mi pc : Nat} {q : Jvm.ClassFile.Instr × Nat}, zI mi pc = some q → decode (zCode mi) pc = .ok q
  | 0, _, _, h => zJ0 h
  | 1, _, _, h => zJ1 h
  | 2, _, _, h => zJ2 h
  | 3, _, _, h => zJ3 h
  | 4, _, _, h => zJ4 h
  | 5, _, _, h => zJ5 h
  | 6, _, _, h => zJ6 h
  | 7, _, _, h => zJ7 h
  | 8, _, _, h => zJ8 h
  | 9, _, _, h => zJ9 h
  | 10, _, _, h => zJ10 h
  | 11, _, _, h => zJ11 h
  | 12, _, _, h => zJ12 h
  | 13, _, _, h => zJ13 h
  | 14, _, _, h => zJ14 h
  | 15, _, _, h => zJ15 h
  | 16, _, _, h => zJ16 h
  | 17, _, _, h => zJ17 h
  | 18, _, _, h => zJ18 h
  | 19, _, _, h => zJ19 h
  | 20, _, _, h => zJ20 h
  | 21, _, _, h => zJ21 h
  | 22, _, _, h => zJ22 h
  | 23, _, _, h => zJ23 h
  | 24, _, _, h => zJ24 h
  | 25, _, _, h => zJ25 h
  | 26, _, _, h => zJ26 h
  | 27, _, _, h => zJ27 h
  | 28, _, _, h => zJ28 h
  | 29, _, _, h => zJ29 h
  | 30, _, _, h => zJ30 h
  | 31, _, _, h => zJ31 h
  | 32, _, _, h => zJ32 h
  | 33, _, _, h => zJ33 h
  | 34, _, _, h => zJ34 h
  | 35, _, _, h => zJ35 h
  | 36, _, _, h => zJ36 h
  | 37, _, _, h => zJ37 h
  | 38, _, _, h => zJ38 h
  | 39, _, _, h => zJ39 h
  | 40, _, _, h => zJ40 h
  | 41, _, _, h => zJ41 h
  | 42, _, _, h => zJ42 h
  | 43, _, _, h => zJ43 h
  | 44, _, _, h => zJ44 h
  | 45, _, _, h => zJ45 h
  | 46, _, _, h => zJ46 h
  | 47, _, _, h => zJ47 h
  | 48, _, _, h => zJ48 h
  | 49, _, _, h => zJ49 h
  | 50, _, _, h => zJ50 h
  | 51, _, _, h => zJ51 h
  | 52, _, _, h => zJ52 h
  | 53, _, _, h => zJ53 h
  | 54, _, _, h => zJ54 h
  | 55, _, _, h => zJ55 h
  | 56, _, _, h => zJ56 h
  | 57, _, _, h => zJ57 h
  | 58, _, _, h => zJ58 h
  | 59, _, _, h => zJ59 h
  | 60, _, _, h => zJ60 h
  | 61, _, _, h => zJ61 h
  | 62, _, _, h => zJ62 h
  | 63, _, _, h => zJ63 h
  | 64, _, _, h => zJ64 h
  | 65, _, _, h => zJ65 h
  | 66, _, _, h => zJ66 h
  | 67, _, _, h => zJ67 h
  | 68, _, _, h => zJ68 h
  | 69, _, _, h => zJ69 h
  | 70, _, _, h => zJ70 h
  | 71, _, _, h => zJ71 h
  | 72, _, _, h => zJ72 h
  | 73, _, _, h => zJ73 h
  | 74, _, _, h => zJ74 h
  | 75, _, _, h => zJ75 h
  | 76, _, _, h => zJ76 h
  | 77, _, _, h => zJ77 h
  | 78, _, _, h => zJ78 h
  | 79, _, _, h => zJ79 h
  | 80, _, _, h => zJ80 h
  | 81, _, _, h => zJ81 h
  | 82, _, _, h => zJ82 h
  | 83, _, _, h => zJ83 h
  | 84, _, _, h => zJ84 h
  | 85, _, _, h => zJ85 h
  | 86, _, _, h => zJ86 h
  | 87, _, _, h => zJ87 h
  | 88, _, _, h => zJ88 h
  | 89, _, _, h => zJ89 h
  | 90, _, _, h => zJ90 h
  | 91, _, _, h => zJ91 h
  | 92, _, _, h => zJ92 h
  | 93, _, _, h => zJ93 h
  | 94, _, _, h => zJ94 h
  | 95, _, _, h => zJ95 h
  | 96, _, _, h => zJ96 h
  | 97, _, _, h => zJ97 h
  | 98, _, _, h => zJ98 h
  | 99, _, _, h => zJ99 h
  | 100, _, _, h => zJ100 h
  | 101, _, _, h => zJ101 h
  | 102, _, _, h => zJ102 h
  | 103, _, _, h => zJ103 h
  | 104, _, _, h => zJ104 h
  | 105, _, _, h => zJ105 h
  | 106, _, _, h => zJ106 h
  | 107, _, _, h => zJ107 h
  | 108, _, _, h => zJ108 h
  | 109, _, _, h => zJ109 h
  | m + 110, _, _, h => absurd (z_gd (n := 110) (pc := m + 110) h).1 (by omega)
end
section
/-! THE PURE MACHINE: sizes, shapes of cells by address, their contents; a frame; one instruction at a time; its tables (zY, zCode, zFld ..) stand in the part ahead. A shape (c, n): c < 100 an object of class c, else an array of kind c - 100; n its fields or elements -/
abbrev zW : Type := (Nat × Nat) × (Nat → Option (Nat × Nat)) × (Nat → Nat → Value)
abbrev zS : Type := Nat × Nat × (Nat → Int32)
def zset (w : zW) (a k : Nat) (v : Value) : zW := (w.1, w.2.1, fun x j => if x = a ∧ j = k then v else w.2.2 x j)
def zpush (w : zW) (c n : Nat) (f : Nat → Value) : zW := ((w.1.1 + 1, w.1.2 + n), (fun x => if x = w.1.1 then some (c, n) else w.2.1 x), fun x j => if x = w.1.1 then f j else w.2.2 x j)
def zlk (i : Nat) : List (Nat × Value) → Option Value
  | [] => none
  | q :: t => if q.1 = i then some q.2 else zlk i t
/-- the locals lie by their numbers -/
def zins (i : Nat) (v : Value) : List (Nat × Value) → List (Nat × Value)
  | [] => [(i, v)]
  | q :: t => cond (Nat.ble i q.1) ((i, v) :: q :: t) (q :: zins i v t)
def zs1 (i : Nat) (v : Value) (L : List (Nat × Value)) : List (Nat × Value) := zins i v (L.filter (fun q => !(q.1 == i) && !(q.1 + 1 == i && q.2.category == 2)))
def zs2 (i : Nat) (v : Value) (L : List (Nat × Value)) : List (Nat × Value) := zins i v (L.filter (fun q => !(q.1 == i) && (!(q.1 == i + 1) && !(q.1 + 1 == i && q.2.category == 2))))
/-- which kind of step an instruction is: 0 the operand stack alone, 1 locals, 2 a branch, 3 the heap and constants, 4 a call, 5 a return -/
def zgr : Jvm.ClassFile.Instr → Nat
  | .iconst _ => 0 | .bipush _ => 0 | .sipush _ => 0 | .lconst _ => 0 | .aconst_null => 0
  | .iadd => 0 | .isub => 0 | .imul => 0 | .idiv => 0 | .irem => 0 | .ineg => 0 | .iand => 0 | .ior => 0 | .ixor => 0 | .ishl => 0 | .ishr => 0 | .iushr => 0
  | .ladd => 0 | .lsub => 0 | .lmul => 0 | .ldiv => 0 | .lrem => 0 | .lneg => 0 | .land => 0 | .lor => 0 | .lxor => 0 | .lshl => 0 | .lshr => 0 | .lushr => 0
  | .i2l => 0 | .l2i => 0 | .lcmp => 0 | .dup => 0 | .pop => 0 | .dup_x1 => 0 | .dup_x2 => 0 | .dup2 => 0 | .pop2 => 0
  | .iload _ => 1 | .iload_n _ => 1 | .lload _ => 1 | .lload_n _ => 1 | .aload _ => 1 | .aload_n _ => 1
  | .istore _ => 1 | .istore_n _ => 1 | .lstore _ => 1 | .lstore_n _ => 1 | .astore _ => 1 | .astore_n _ => 1 | .iinc _ _ => 1
  | .ifCond _ _ => 2 | .if_icmp _ _ => 2 | .if_acmp _ _ => 2 | .ifnull _ => 2 | .ifnonnull _ => 2 | .goto _ => 2 | .tableswitch _ _ _ _ => 2 | .lookupswitch _ _ => 2
  | .getfield _ => 3 | .putfield _ => 3 | .new _ => 3 | .newarray _ => 3 | .anewarray _ => 3 | .arraylength => 3
  | .iaload => 3 | .laload => 3 | .baload => 3 | .aaload => 3 | .iastore => 3 | .lastore => 3 | .bastore => 3 | .aastore => 3 | .ldc _ => 3 | .ldc2_w _ => 3
  | .invokevirtual _ => 4 | .invokespecial _ => 4 | .invokestatic _ => 4
  | .ireturn => 5 | .lreturn => 5 | .areturn => 5 | .return_ => 5
  | _ => 6
def zalu : Jvm.ClassFile.Instr → Nat → List Value → Option (List Value)
  | .iconst n, 1, r => some (.int (Int32.ofInt n) :: r)
  | .bipush n, 2, r => some (.int (Int8.ofInt n).toInt32 :: r)
  | .sipush n, 3, r => some (.int (Int16.ofInt n).toInt32 :: r)
  | .lconst n, 1, r => some (.long (Int64.ofNat (n : Nat)) :: r)
  | .aconst_null, 1, r => some (.null :: r)
  | .iadd, 1, .int y :: .int x :: r => some (.int (x + y) :: r)
  | .isub, 1, .int y :: .int x :: r => some (.int (x - y) :: r)
  | .imul, 1, .int y :: .int x :: r => some (.int (x * y) :: r)
  | .idiv, 1, .int y :: .int x :: r => if y = 0 then none else some (.int (x / y) :: r)
  | .irem, 1, .int y :: .int x :: r => if y = 0 then none else some (.int (x - x / y * y) :: r)
  | .ineg, 1, .int x :: r => some (.int (-x) :: r)
  | .iand, 1, .int y :: .int x :: r => some (.int (x &&& y) :: r)
  | .ior, 1, .int y :: .int x :: r => some (.int (x ||| y) :: r)
  | .ixor, 1, .int y :: .int x :: r => some (.int (x ^^^ y) :: r)
  | .ishl, 1, .int y :: .int x :: r => some (.int (x <<< (y &&& 31)) :: r)
  | .ishr, 1, .int y :: .int x :: r => some (.int (x >>> (y &&& 31)) :: r)
  | .iushr, 1, .int y :: .int x :: r => some (.int (x.toUInt32 >>> (y.toUInt32 &&& Int32.toUInt32 31)).toInt32 :: r)
  | .ladd, 1, .long y :: .long x :: r => some (.long (x + y) :: r)
  | .lsub, 1, .long y :: .long x :: r => some (.long (x - y) :: r)
  | .lmul, 1, .long y :: .long x :: r => some (.long (x * y) :: r)
  | .ldiv, 1, .long y :: .long x :: r => if y = 0 then none else some (.long (x / y) :: r)
  | .lrem, 1, .long y :: .long x :: r => if y = 0 then none else some (.long (x - x / y * y) :: r)
  | .lneg, 1, .long x :: r => some (.long (-x) :: r)
  | .land, 1, .long y :: .long x :: r => some (.long (x &&& y) :: r)
  | .lor, 1, .long y :: .long x :: r => some (.long (x ||| y) :: r)
  | .lxor, 1, .long y :: .long x :: r => some (.long (x ^^^ y) :: r)
  | .lshl, 1, .int y :: .long x :: r => some (.long (x <<< (y.toInt64 &&& 63)) :: r)
  | .lshr, 1, .int y :: .long x :: r => some (.long (x >>> (y.toInt64 &&& 63)) :: r)
  | .lushr, 1, .int y :: .long x :: r => some (.long (x.toUInt64 >>> (y.toInt64.toUInt64 &&& Int64.toUInt64 63)).toInt64 :: r)
  | .i2l, 1, .int x :: r => some (.long x.toInt64 :: r)
  | .l2i, 1, .long x :: r => some (.int x.toInt32 :: r)
  | .lcmp, 1, .long y :: .long x :: r => some (.int (lg_cmp x y) :: r)
  | .dup, 1, v :: r => if v.category = 1 then some (v :: v :: r) else none
  | .pop, 1, v :: r => if v.category = 1 then some r else none
  | .dup_x1, 1, v :: u :: r => if v.category = 1 ∧ u.category = 1 then some (v :: u :: v :: r) else none
  | .dup_x2, 1, v :: u :: t :: r => if v.category = 1 ∧ u.category = 1 ∧ t.category = 1 then some (v :: u :: t :: v :: r) else none
  | .dup2, 1, v :: u :: r => if v.category = 1 ∧ u.category = 1 then some (v :: u :: v :: u :: r) else none
  | _, _, _ => none
def zloc (nL : Nat) (ins : Jvm.ClassFile.Instr) (len : Nat) (L : List (Nat × Value)) (st : List Value) : Option (List (Nat × Value) × List Value) :=
  match ins, len, st with
  | .iload_n k, 1, r => (match zlk k.val L with | some (.int x) => some (L, .int x :: r) | _ => none)
  | .iload i, 2, r => (match zlk i L with | some (.int x) => some (L, .int x :: r) | _ => none)
  | .lload_n k, 1, r => (match zlk k.val L with | some (.long x) => some (L, .long x :: r) | _ => none)
  | .lload i, 2, r => (match zlk i L with | some (.long x) => some (L, .long x :: r) | _ => none)
  | .aload_n k, 1, r => (match zlk k.val L with | some (.ref x) => some (L, .ref x :: r) | some .null => some (L, .null :: r) | _ => none)
  | .aload i, 2, r => (match zlk i L with | some (.ref x) => some (L, .ref x :: r) | some .null => some (L, .null :: r) | _ => none)
  | .istore_n k, 1, .int x :: r => if k.val < nL then some (zs1 k.val (.int x) L, r) else none
  | .istore i, 2, .int x :: r => if i < nL then some (zs1 i (.int x) L, r) else none
  | .lstore_n k, 1, .long x :: r => if k.val + 1 < nL then some (zs2 k.val (.long x) L, r) else none
  | .lstore i, 2, .long x :: r => if i + 1 < nL then some (zs2 i (.long x) L, r) else none
  | .astore_n k, 1, .ref x :: r => if k.val < nL then some (zs1 k.val (.ref x) L, r) else none
  | .astore_n k, 1, .null :: r => if k.val < nL then some (zs1 k.val .null L, r) else none
  | .astore i, 2, .ref x :: r => if i < nL then some (zs1 i (.ref x) L, r) else none
  | .astore i, 2, .null :: r => if i < nL then some (zs1 i .null L, r) else none
  | .iinc i n, 3, r => (match zlk i L with | some (.int x) => if i < nL then some (zs1 i (.int (x + Int32.ofInt n)) L, r) else none | _ => none)
  | _, _, _ => none
/-- a jump's target -/
def ztg (pc : Nat) (off : Int) : Nat := ((pc : Int) + off).toNat
def zbc (pc : Nat) (off : Int) (r : List Value) (b : Bool) : Option (Nat × List Value) := if 0 ≤ (pc : Int) + off then some (if b = true then ztg pc off else pc + 3, r) else none
def zbr (ins : Jvm.ClassFile.Instr) (len pc : Nat) (st : List Value) : Option (Nat × List Value) :=
  match ins, len, st with
  | .ifCond .eq off, 3, .int x :: r => zbc pc off r (decide (x = 0))
  | .ifCond .ne off, 3, .int x :: r => zbc pc off r (decide (¬ x = 0))
  | .ifCond .lt off, 3, .int x :: r => zbc pc off r (decide (x < 0))
  | .ifCond .ge off, 3, .int x :: r => zbc pc off r (decide (0 ≤ x))
  | .ifCond .gt off, 3, .int x :: r => zbc pc off r (decide (0 < x))
  | .ifCond .le off, 3, .int x :: r => zbc pc off r (decide (x ≤ 0))
  | .if_icmp .eq off, 3, .int y :: .int x :: r => zbc pc off r (decide (x = y))
  | .if_icmp .ne off, 3, .int y :: .int x :: r => zbc pc off r (decide (¬ x = y))
  | .if_icmp .lt off, 3, .int y :: .int x :: r => zbc pc off r (decide (x < y))
  | .if_icmp .ge off, 3, .int y :: .int x :: r => zbc pc off r (decide (y ≤ x))
  | .if_icmp .gt off, 3, .int y :: .int x :: r => zbc pc off r (decide (y < x))
  | .if_icmp .le off, 3, .int y :: .int x :: r => zbc pc off r (decide (x ≤ y))
  | .ifnull off, 3, .ref _ :: r => zbc pc off r false
  | .ifnull off, 3, .null :: r => zbc pc off r true
  | .ifnonnull off, 3, .ref _ :: r => zbc pc off r true
  | .ifnonnull off, 3, .null :: r => zbc pc off r false
  | .goto off, 3, r => zbc pc off r true
  | .tableswitch dflt lo hi offs, _, .int x :: r => if x.toInt < lo ∨ hi < x.toInt then zbc pc dflt r true else (match offs[(x.toInt - lo).toNat]? with | some off => zbc pc off r true | none => none)
  | .lookupswitch dflt ps, _, .int x :: r => if (ps.toList.zip (ps.toList.drop 1)).all (fun (a, next) => a.1 < next.1) = true then zbc pc (Op.lookupswitch.offset ps.toList dflt x.toInt) r true else none
  | _, _, _ => none
/-- a field may take a value -/
abbrev zPf (mi ci k : Nat) (v : Value) : Prop := narrow (zFT ci k) v = v ∧ fits (zFT ci k) v = true ∧ (zFin ci k = false ∨ (zFin ci k = true ∧ zOC mi = ci ∧ (zY mi).name = "<init>"))
/-- an index within an array of kind k and length n -/
abbrev zix (i : Int32) (n : Nat) : Prop := ¬ (i < 0 ∨ n ≤ i.toNatClampNeg)
def zhp (S : zS) (mi : Nat) (ins : Jvm.ClassFile.Instr) (len : Nat) (st : List Value) (w : zW) : Option (List Value × zW) :=
  match ins, len, st with
  | .getfield idx, 3, .ref a :: r => (match zFld (zOC mi) idx, w.2.1 a with
    | some (ci, k), some (cj, _) => if cj = ci then some (w.2.2 a k :: r, w) else none
    | _, _ => none)
  | .putfield idx, 3, v :: .ref a :: r => (match zFld (zOC mi) idx, w.2.1 a with
    | some (ci, k), some (cj, _) => if cj = ci ∧ zPf mi ci k v then some (r, zset w a k v) else none
    | _, _ => none)
  | .new idx, 3, r => (match zNew (zOC mi) idx with
    | some ci => some (.ref w.1.1 :: r, zpush w ci (zN ci) (zBl ci))
    | none => none)
  | .newarray t, 2, .int n :: r => (match zNA t with
    | some k => if ¬ n < 0 ∧ n.toNatClampNeg ≤ 60000000 then some (.ref w.1.1 :: r, zpush w (100 + k) n.toNatClampNeg (fun _ => defaultValue (zAK k))) else none
    | none => none)
  | .anewarray idx, 3, .int n :: r => (match zAN (zOC mi) idx with
    | some k => if ¬ n < 0 ∧ n.toNatClampNeg ≤ 60000000 then some (.ref w.1.1 :: r, zpush w (100 + k) n.toNatClampNeg (fun _ => .null)) else none
    | none => none)
  | .arraylength, 1, .ref a :: r => (match w.2.1 a with
    | some (c, n) => if 100 ≤ c then some (.int (Int32.ofNat n) :: r, w) else none
    | none => if a = S.1 then some (.int (Int32.ofNat S.2.1) :: r, w) else none)
  | .iaload, 1, .int i :: .ref a :: r => (match w.2.1 a with
    | some (c, n) => if 100 ≤ c ∧ zAK (c - 100) = .int ∧ zix i n then some (w.2.2 a i.toNatClampNeg :: r, w) else none
    | none => if a = S.1 ∧ zix i S.2.1 then some (.int (S.2.2 i.toNatClampNeg) :: r, w) else none)
  | .laload, 1, .int i :: .ref a :: r => (match w.2.1 a with
    | some (c, n) => if 100 ≤ c ∧ zAK (c - 100) = .long ∧ zix i n then some (w.2.2 a i.toNatClampNeg :: r, w) else none
    | none => none)
  | .baload, 1, .int i :: .ref a :: r => (match w.2.1 a with
    | some (c, n) => if 100 ≤ c ∧ zAK (c - 100) = .boolean ∧ zix i n then some (w.2.2 a i.toNatClampNeg :: r, w) else none
    | none => none)
  | .aaload, 1, .int i :: .ref a :: r => (match w.2.1 a with
    | some (c, n) => if 100 ≤ c ∧ (zAc (c - 100)).isSome = true ∧ zix i n then some (w.2.2 a i.toNatClampNeg :: r, w) else none
    | none => none)
  | .iastore, 1, .int x :: .int i :: .ref a :: r => (match w.2.1 a with
    | some (c, n) => if 100 ≤ c ∧ zAK (c - 100) = .int ∧ zix i n then some (r, zset w a i.toNatClampNeg (.int x)) else none
    | none => none)
  | .lastore, 1, .long x :: .int i :: .ref a :: r => (match w.2.1 a with
    | some (c, n) => if 100 ≤ c ∧ zAK (c - 100) = .long ∧ zix i n then some (r, zset w a i.toNatClampNeg (.long x)) else none
    | none => none)
  | .bastore, 1, .int x :: .int i :: .ref a :: r => (match w.2.1 a with
    | some (c, n) => if 100 ≤ c ∧ zAK (c - 100) = .boolean ∧ narrow .boolean (.int x) = .int x ∧ zix i n then some (r, zset w a i.toNatClampNeg (.int x)) else none
    | none => none)
  | .aastore, 1, .ref v :: .int i :: .ref a :: r => (match w.2.1 a, w.2.1 v with
    | some (c, n), some (cj, _) => if 100 ≤ c ∧ zAc (c - 100) = some cj ∧ zix i n then some (r, zset w a i.toNatClampNeg (.ref v)) else none
    | _, _ => none)
  | .ldc idx, 2, r => (match zLd (zOC mi) idx with | some x => some (.int x :: r, w) | none => none)
  | .ldc2_w idx, 3, r => (match zLd2 (zOC mi) idx with | some x => some (.long x :: r, w) | none => none)
  | _, _, _ => none
def zcs (r : List Value) : Nat := (r.map fun v => v.category).sum
/-- a call: the method, its arguments, what stays on the stack -/
def zcl (mi : Nat) (ins : Jvm.ClassFile.Instr) (len : Nat) (st : List Value) (w : zW) : Option (Nat × List Value × List Value) :=
  match ins, len with
  | .invokevirtual idx, 3 => (match zMt (zOC mi) idx with
    | some (mj, n, 0) => (match st.drop n with
      | .ref b :: rest => (match w.2.1 b with
        | some (cj, _) => if zRC mj = some cj ∧ zcs rest ≤ 8 ∧ (lg_sl (.ref b :: (st.take n).reverse)).length ≤ zML mj then some (mj, .ref b :: (st.take n).reverse, rest) else none
        | none => none)
      | _ => none)
    | _ => none)
  | .invokespecial idx, 3 => (match zMt (zOC mi) idx with
    | some (mj, n, 1) => (match st.drop n with
      | .ref b :: rest => if zcs rest ≤ 8 ∧ (lg_sl (.ref b :: (st.take n).reverse)).length ≤ zML mj then some (mj, .ref b :: (st.take n).reverse, rest) else none
      | _ => none)
    | some (_, _, 3) => (match st with
      | .ref b :: rest => if zcs rest ≤ 8 then some (0, [.ref b], rest) else none
      | _ => none)
    | _ => none)
  | .invokestatic idx, 3 => (match zMt (zOC mi) idx with
    | some (mj, n, 2) => if n ≤ st.length ∧ zcs (st.drop n) ≤ 8 ∧ (lg_sl (st.take n).reverse).length ≤ zML mj then some (mj, (st.take n).reverse, st.drop n) else none
    | _ => none)
  | _, _ => none
def zrt (mi : Nat) (ins : Jvm.ClassFile.Instr) (len : Nat) (st : List Value) : Option (Option Value) :=
  match ins, len, st with
  | .ireturn, 1, [.int v] => (match zRT mi with | some ty => if narrow ty (.int v) = .int v then some (some (.int v)) else none | none => none)
  | .lreturn, 1, [.long v] => if zRT mi = some .long then some (some (.long v)) else none
  | .areturn, 1, [.ref v] => (match zRT mi with | some (.object _) => some (some (.ref v)) | some (.array _) => some (some (.ref v)) | _ => none)
  | .areturn, 1, [.null] => (match zRT mi with | some (.object _) => some (some .null) | some (.array _) => some (some .null) | _ => none)
  | .return_, 1, [] => if zRT mi = none then some none else none
  | _, _, _ => none
abbrev zR : Type := (Nat × List (Nat × Value) × List Value × zW) ⊕ ((Nat × List Value × List Value) ⊕ Option Value)
def zst (S : zS) (mi : Nat) (ins : Jvm.ClassFile.Instr) (len pc : Nat) (L : List (Nat × Value)) (st : List Value) (w : zW) : Option zR :=
  match zgr ins with
  | 0 => (zalu ins len st).map fun st' => .inl (pc + len, L, st', w)
  | 1 => (zloc (zML mi) ins len L st).map fun q => .inl (pc + len, q.1, q.2, w)
  | 2 => (zbr ins len pc st).map fun q => .inl (q.1, L, q.2, w)
  | 3 => (zhp S mi ins len st w).map fun q => .inl (pc + len, L, q.1, q.2)
  | 4 => (zcl mi ins len st w).map fun q => .inr (.inl q)
  | 5 => (zrt mi ins len st).map fun q => .inr (.inr q)
  | _ => none
/-- the run of a method from a point on: with n steps, d frames below it -/
def zgo (S : zS) : Nat → Nat → Nat → Nat → List (Nat × Value) → List Value → zW → Option (Option Value × zW)
  | 0, _, _, _, _, _, _ => none
  | n + 1, d, mi, pc, L, st, w =>
    match decode (zCode mi) pc with
    | .error _ => none
    | .ok (ins, len) => match zst S mi ins len pc L st w with
      | none => none
      | some (.inl (pc', L', st', w')) => zgo S n d mi pc' L' st' w'
      | some (.inr (.inr v)) => some (v, w)
      | some (.inr (.inl (mj, as, rest))) => match d with
        | 0 => none
        | d' + 1 => match zgo S n d' mj 0 (lv_args 0 as) [] w with
          | none => none
          | some (v, w') => zgo S n (d' + 1) mi (pc + 3) L (v.toList ++ rest) w'
/-- it comes to its end, with Post -/
def zOk (S : zS) (d mi pc : Nat) (L : List (Nat × Value)) (st : List Value) (w : zW) (Post : Option Value → zW → Prop) : Prop := ∃ n v w', zgo S n d mi pc L st w = some (v, w') ∧ Post v w'
end
section
/-! what the tables say: every entry has its word among the claim's -/
def zTbl : List Cond := lw_tbl.filter goodWord
def zNs : Cond → Bool
  | .methodLinkNest _ _ _ _ => true
  | .arrayOver (.object _) => true
  | _ => false
def zNst : List Cond := tables_1.filter zNs
theorem z_t {w : Cond} {i : Nat} (h : tables_1[i]? = some w) (hg : goodWord w = true) : w ∈ zTbl := List.mem_filter.mpr ⟨List.mem_append_right _ (List.mem_of_getElem? h), hg⟩
theorem z_l {w : Cond} {i : Nat} (h : lw_tbl[i]? = some w) (hg : goodWord w = true) : w ∈ zTbl := List.mem_filter.mpr ⟨List.mem_of_getElem? h, hg⟩
theorem z_n {w : Cond} {i : Nat} (h : tables_1[i]? = some w) (hg : zNs w = true) : w ∈ zNst := List.mem_filter.mpr ⟨List.mem_of_getElem? h, hg⟩
theorem zTbl_good (w : Cond) (h : w ∈ zTbl) : (w.onTables && w.keeps) = true ∨ ∃ ty, w = .arrayClass ty := good_of_word (List.mem_filter.mp h).2
theorem zNs_cases {w : Cond} (h : zNs w = true) : (∃ a i x t, w = .methodLinkNest a i x t) ∨ ∃ C, w = .arrayOver (.object C) := by
  unfold zNs at h
  split at h
  · exact Or.inl ⟨_, _, _, _, rfl⟩
  · exact Or.inr ⟨_, rfl⟩
  · cases h
theorem zNst_warm {s U : State} (hW : s.WarmedH U.vm) (h : ∀ w ∈ zNst, va_Nw w s) : ∀ w ∈ zNst, va_Nw w U := by
  intro w hw
  have h1 := h w hw
  rcases zNs_cases (List.mem_filter.mp hw).2 with ⟨a, i, x, t, rfl⟩ | ⟨C, rfl⟩
  · exact va_Nw.warmM hW h1
  · exact va_AO.moved hW.alike h1
theorem zNst_same {s U : State} (hv : s.vm = U.vm) (h : ∀ w ∈ zNst, va_Nw w s) : ∀ w ∈ zNst, va_Nw w U := by
  intro w hw
  have h1 := h w hw
  rcases zNs_cases (List.mem_filter.mp hw).2 with ⟨a, i, x, t, rfl⟩ | ⟨C, rfl⟩
  · exact va_Nw.same rfl hv h1
  · exact va_AO.moved (by rw [hv]; exact Vm.Alike.refl _) h1
/-- classes -/
def zClC (ci : Nat) : Bool := match vwCl[ci]? with
  | some r => (List.range r.2.2).all (fun k => decide (parseFieldDescriptor (r.2.1 k).2.2.1 = some (zFT ci k)) && decide ((r.2.1 k).2.2.2 = zFin ci k) && decide ((r.2.1 k).1 = r.1)) && decide (zN ci = r.2.2) && decide (zON ci = r.1) && decide (ci < 100) && (List.range r.2.2).all (fun a => (List.range r.2.2).all (fun b => decide (a = b) || decide ((r.2.1 a).2.1 ≠ (r.2.1 b).2.1)))
  | none => true
set_option maxRecDepth 100000 in
theorem zClC_ok : (List.range 8).all zClC = true := by decide +kernel
set_option maxRecDepth 100000 in
theorem zClW_ok : vwCl.all (fun r => (u_ws r.1 r.2.1 r.2.2).all fun w => decide (w ∈ tables_1) && goodWord w) = true := by decide +kernel
theorem zCl_lt8 {ci : Nat} {r : vw_C} (h : vwCl[ci]? = some r) : ci < 8 := (List.getElem?_eq_some_iff.mp h).1
theorem zCl_ok {ci : Nat} {C : String} {T : u_T} {N : Nat} (h : vwCl[ci]? = some (C, T, N)) : (∀ w ∈ u_ws C T N, w ∈ zTbl) ∧ (∀ k, k < N → parseFieldDescriptor (T k).2.2.1 = some (zFT ci k)) ∧ (∀ a, a < N → ∀ b, b < N → a ≠ b → (T a).2.1 ≠ (T b).2.1) ∧ (∀ k, k < N → (T k).2.2.2 = zFin ci k) ∧ (∀ k, k < N → (T k).1 = C) ∧ zN ci = N ∧ zON ci = C := by
  have h1 := List.all_eq_true.mp zClC_ok ci (List.mem_range.mpr (zCl_lt8 h))
  have h2 := List.all_eq_true.mp zClW_ok _ (List.mem_of_getElem? h)
  unfold zClC at h1
  rw [h] at h1
  simp only [Bool.and_eq_true, List.all_eq_true, List.mem_range, decide_eq_true_eq, Bool.or_eq_true] at h1
  obtain ⟨⟨⟨⟨h3, h4⟩, h5⟩, h6⟩, h7⟩ := h1
  refine ⟨fun w hw => ?_, fun k hk => (h3 k hk).1.1, fun a ha b hb hne => ?_, fun k hk => (h3 k hk).1.2, fun k hk => (h3 k hk).2, h4, h5⟩
  · have h8 := List.all_eq_true.mp h2 w hw
    simp only [Bool.and_eq_true, decide_eq_true_eq] at h8
    exact List.mem_filter.mpr ⟨List.mem_append_right _ h8.1, h8.2⟩
  · rcases h7 a ha b hb with h9 | h9
    · exact absurd h9 hne
    · exact h9
theorem zCl_lt {ci : Nat} {r : vw_C} (h : vwCl[ci]? = some r) : ci < 100 := Nat.lt_of_lt_of_le (zCl_lt8 h) (by decide)
theorem zON_ok {ci : Nat} {C : String} {T : u_T} {N : Nat} (h : vwCl[ci]? = some (C, T, N)) : zON ci = C := (zCl_ok h).2.2.2.2.2.2
/-- fields -/
def zFldC (q : Nat × Nat × Nat × Nat × Nat) : Bool := match vwCl[q.2.2.1]? with
  | some r => decide (q.2.2.2.1 < r.2.2) && decide (tables_1[q.2.2.2.2]? = some (Cond.fieldLink (zON q.1) q.2.1 r.1 (r.2.1 q.2.2.2.1).2.1 (r.2.1 q.2.2.2.1).2.2.1))
  | none => false
set_option maxRecDepth 100000 in
theorem zFldC_ok : zFldL.all zFldC = true := by decide +kernel
theorem z_find {α β : Type} {l : List α} {f : α → Bool} {g : α → β} {y : β} (h : (l.find? f).map g = some y) : ∃ q ∈ l, f q = true ∧ g q = y := by
  cases hf : l.find? f with
  | none => rw [hf] at h; cases h
  | some q =>
    rw [hf] at h
    exact ⟨q, List.mem_of_find?_eq_some hf, List.find?_some hf, Option.some.inj h⟩
theorem zFld_ok {oc idx ci k : Nat} (h : zFld oc idx = some (ci, k)) : ∃ (C : String) (T : u_T) (N : Nat), vwCl[ci]? = some (C, T, N) ∧ ci < 100 ∧ k < N ∧ (T k).1 = C ∧ (Cond.fieldLink (zON oc) idx C (T k).2.1 (T k).2.2.1 ∈ zTbl ∨ ∃ host, Cond.fieldLinkNest (zON oc) idx C (T k).2.1 (T k).2.2.1 host ∈ zNst) := by
  obtain ⟨q, hq, hk, he⟩ := z_find h
  obtain ⟨q1, q2, q3, q4, q5⟩ := q
  cases he
  simp only [Bool.and_eq_true, beq_iff_eq] at hk
  obtain ⟨rfl, rfl⟩ := hk
  have h1 := List.all_eq_true.mp zFldC_ok _ hq
  unfold zFldC at h1
  dsimp only at h1
  split at h1
  · rename_i r hr
    obtain ⟨C, T, N⟩ := r
    simp only [Bool.and_eq_true, decide_eq_true_eq] at h1
    exact ⟨C, T, N, hr, zCl_lt hr, h1.1, (zCl_ok hr).2.2.2.2.1 _ h1.1, Or.inl (z_t h1.2 rfl)⟩
  · cases h1
/-- new objects -/
def zNewC (q : Nat × Nat × Nat × Nat × Nat × Nat) : Bool := match vwCl[q.2.2.1]? with
  | some r => decide (tables_1[q.2.2.2.1]? = some (Cond.classLink (zON q.1) q.2.1 r.1)) && decide (tables_1[q.2.2.2.2.1]? = some (Cond.instantiable r.1 r.2.2)) && decide (tables_1[q.2.2.2.2.2]? = some (Cond.initialized r.1))
  | none => false
set_option maxRecDepth 100000 in
theorem zNewC_ok : zNewL.all zNewC = true := by decide +kernel
theorem zNew_ok {oc idx ci : Nat} (h : zNew oc idx = some ci) : ∃ (C : String) (T : u_T), vwCl[ci]? = some (C, T, zN ci) ∧ ci < 100 ∧ Cond.classLink (zON oc) idx C ∈ zTbl ∧ Cond.instantiable C (zN ci) ∈ zTbl ∧ Cond.initialized C ∈ zTbl := by
  obtain ⟨q, hq, hk, he⟩ := z_find h
  obtain ⟨q1, q2, q3, q4, q5, q6⟩ := q
  cases he
  simp only [Bool.and_eq_true, beq_iff_eq] at hk
  obtain ⟨rfl, rfl⟩ := hk
  have h1 := List.all_eq_true.mp zNewC_ok _ hq
  unfold zNewC at h1
  dsimp only at h1
  split at h1
  · rename_i r hr
    obtain ⟨C, T, N⟩ := r
    have hN : zN q3 = N := (zCl_ok hr).2.2.2.2.2.1
    subst hN
    simp only [Bool.and_eq_true, decide_eq_true_eq] at h1
    exact ⟨C, T, hr, zCl_lt hr, z_t h1.1.1 rfl, z_t h1.1.2 rfl, z_t h1.2 rfl⟩
  · cases h1
/-- arrays -/
theorem zNA_ok {t : Jvm.ClassFile.ArrayType} {k : Nat} (h : zNA t = some k) : k < zNT ∧ newarray.typeOf t = zAK k ∧ Cond.arrayClass (newarray.typeOf t) ∈ zTbl ∧ componentBytes (newarray.typeOf t) ≤ 8 ∧ True := by
  cases t with
  | int => cases h; exact ⟨by decide, rfl, z_t (i := 97) (by decide +kernel) rfl, by decide, trivial⟩
  | long => cases h; exact ⟨by decide, rfl, z_t (i := 69) (by decide +kernel) rfl, by decide, trivial⟩
  | boolean => cases h; exact ⟨by decide, rfl, z_t (i := 70) (by decide +kernel) rfl, by decide, trivial⟩
  | _ => cases h
theorem zAc_ok {k cj : Nat} (h : zAc k = some cj) : ∃ r0 : vw_C, vwCl[cj]? = some r0 ∧ zAK k = .object r0.1 := by
  unfold zAc at h
  split at h
  · cases h; exact ⟨_, rfl, rfl⟩
  · cases h; exact ⟨_, rfl, rfl⟩
  · cases h
theorem zAc_lt {k cj : Nat} (h : zAc k = some cj) : cj < 100 := by
  obtain ⟨r0, h1, -⟩ := zAc_ok h
  exact zCl_lt h1
def zANC (q : Nat × Nat × Nat × Nat × Nat) : Bool := decide (q.2.2.1 < zNT) && (match zAK q.2.2.1 with
  | .object C => decide (tables_1[q.2.2.2.1]? = some (Cond.classLink (zON q.1) q.2.1 C)) && decide (tables_1[q.2.2.2.2]? = some (Cond.arrayOver (.object C)))
  | _ => false)
set_option maxRecDepth 100000 in
theorem zANC_ok : zANL.all zANC = true := by decide +kernel
theorem zAN_ok {oc idx k : Nat} (h : zAN oc idx = some k) : ∃ C : String, k < zNT ∧ zAK k = .object C ∧ Cond.classLink (zON oc) idx C ∈ zTbl ∧ Cond.arrayOver (.object C) ∈ zNst := by
  obtain ⟨q, hq, hk, he⟩ := z_find h
  obtain ⟨q1, q2, q3, q4, q5⟩ := q
  cases he
  simp only [Bool.and_eq_true, beq_iff_eq] at hk
  obtain ⟨rfl, rfl⟩ := hk
  have h1 := List.all_eq_true.mp zANC_ok _ hq
  unfold zANC at h1
  simp only [Bool.and_eq_true, decide_eq_true_eq] at h1
  obtain ⟨h0, h1⟩ := h1
  split at h1
  · rename_i C hC
    simp only [Bool.and_eq_true, decide_eq_true_eq] at h1
    exact ⟨C, h0, hC, z_t h1.1 rfl, z_n h1.2 rfl⟩
  · cases h1
/-- constants -/
theorem zLd_ok {oc idx : Nat} {v : Int32} (h : zLd oc idx = some v) : Cond.constant (zON oc) idx v ∈ zTbl := by cases h
def zLd2C (q : Nat × Nat × Int64 × Nat) : Bool := decide (tables_1[q.2.2.2]? = some (Cond.constantLong (zON q.1) q.2.1 q.2.2.1))
set_option maxRecDepth 100000 in
theorem zLd2C_ok : zLd2L.all zLd2C = true := by decide +kernel
theorem zLd2_ok {oc idx : Nat} {v : Int64} (h : zLd2 oc idx = some v) : Cond.constantLong (zON oc) idx v ∈ zTbl := by
  obtain ⟨q, hq, hk, he⟩ := z_find h
  obtain ⟨q1, q2, q3, q4⟩ := q
  cases he
  simp only [Bool.and_eq_true, beq_iff_eq] at hk
  obtain ⟨rfl, rfl⟩ := hk
  have h1 := List.all_eq_true.mp zLd2C_ok _ hq
  unfold zLd2C at h1
  exact z_t (of_decide_eq_true h1) rfl
end
section
/-! the code of every method is among the words -/
set_option maxRecDepth 100000 in
theorem zc1 : Cond.code (zY 1) (zCode 1) (zML 1) (zRT 1) ∈ zTbl := z_t (i := 15) rfl rfl
set_option maxRecDepth 100000 in
theorem zc2 : Cond.code (zY 2) (zCode 2) (zML 2) (zRT 2) ∈ zTbl := z_t (i := 23) rfl rfl
set_option maxRecDepth 100000 in
theorem zc3 : Cond.code (zY 3) (zCode 3) (zML 3) (zRT 3) ∈ zTbl := z_t (i := 38) rfl rfl
set_option maxRecDepth 100000 in
theorem zc4 : Cond.code (zY 4) (zCode 4) (zML 4) (zRT 4) ∈ zTbl := z_t (i := 44) rfl rfl
set_option maxRecDepth 100000 in
theorem zc5 : Cond.code (zY 5) (zCode 5) (zML 5) (zRT 5) ∈ zTbl := z_t (i := 75) rfl rfl
set_option maxRecDepth 100000 in
theorem zc6 : Cond.code (zY 6) (zCode 6) (zML 6) (zRT 6) ∈ zTbl := z_t (i := 144) rfl rfl
set_option maxRecDepth 100000 in
theorem zc7 : Cond.code (zY 7) (zCode 7) (zML 7) (zRT 7) ∈ zTbl := z_t (i := 148) rfl rfl
set_option maxRecDepth 100000 in
theorem zc8 : Cond.code (zY 8) (zCode 8) (zML 8) (zRT 8) ∈ zTbl := z_t (i := 152) rfl rfl
set_option maxRecDepth 100000 in
theorem zc9 : Cond.code (zY 9) (zCode 9) (zML 9) (zRT 9) ∈ zTbl := z_t (i := 210) rfl rfl
set_option maxRecDepth 100000 in
theorem zc10 : Cond.code (zY 10) (zCode 10) (zML 10) (zRT 10) ∈ zTbl := z_t (i := 214) rfl rfl
set_option maxRecDepth 100000 in
theorem zc11 : Cond.code (zY 11) (zCode 11) (zML 11) (zRT 11) ∈ zTbl := z_t (i := 218) rfl rfl
set_option maxRecDepth 100000 in
theorem zc12 : Cond.code (zY 12) (zCode 12) (zML 12) (zRT 12) ∈ zTbl := z_t (i := 222) rfl rfl
set_option maxRecDepth 100000 in
theorem zc13 : Cond.code (zY 13) (zCode 13) (zML 13) (zRT 13) ∈ zTbl := z_t (i := 226) rfl rfl
set_option maxRecDepth 100000 in
theorem zc14 : Cond.code (zY 14) (zCode 14) (zML 14) (zRT 14) ∈ zTbl := z_t (i := 230) rfl rfl
set_option maxRecDepth 100000 in
theorem zc15 : Cond.code (zY 15) (zCode 15) (zML 15) (zRT 15) ∈ zTbl := z_t (i := 234) rfl rfl
set_option maxRecDepth 100000 in
theorem zc16 : Cond.code (zY 16) (zCode 16) (zML 16) (zRT 16) ∈ zTbl := z_t (i := 237) rfl rfl
set_option maxRecDepth 100000 in
theorem zc17 : Cond.code (zY 17) (zCode 17) (zML 17) (zRT 17) ∈ zTbl := z_t (i := 241) rfl rfl
set_option maxRecDepth 100000 in
theorem zc18 : Cond.code (zY 18) (zCode 18) (zML 18) (zRT 18) ∈ zTbl := z_t (i := 245) rfl rfl
set_option maxRecDepth 100000 in
theorem zc19 : Cond.code (zY 19) (zCode 19) (zML 19) (zRT 19) ∈ zTbl := z_t (i := 249) rfl rfl
set_option maxRecDepth 100000 in
theorem zc20 : Cond.code (zY 20) (zCode 20) (zML 20) (zRT 20) ∈ zTbl := z_t (i := 256) rfl rfl
set_option maxRecDepth 100000 in
theorem zc21 : Cond.code (zY 21) (zCode 21) (zML 21) (zRT 21) ∈ zTbl := z_t (i := 259) rfl rfl
set_option maxRecDepth 100000 in
theorem zc22 : Cond.code (zY 22) (zCode 22) (zML 22) (zRT 22) ∈ zTbl := z_t (i := 263) rfl rfl
set_option maxRecDepth 100000 in
theorem zc23 : Cond.code (zY 23) (zCode 23) (zML 23) (zRT 23) ∈ zTbl := z_t (i := 270) rfl rfl
set_option maxRecDepth 100000 in
theorem zc24 : Cond.code (zY 24) (zCode 24) (zML 24) (zRT 24) ∈ zTbl := z_t (i := 274) rfl rfl
set_option maxRecDepth 100000 in
theorem zc25 : Cond.code (zY 25) (zCode 25) (zML 25) (zRT 25) ∈ zTbl := z_t (i := 277) rfl rfl
set_option maxRecDepth 100000 in
theorem zc26 : Cond.code (zY 26) (zCode 26) (zML 26) (zRT 26) ∈ zTbl := z_t (i := 281) rfl rfl
set_option maxRecDepth 100000 in
theorem zc27 : Cond.code (zY 27) (zCode 27) (zML 27) (zRT 27) ∈ zTbl := z_t (i := 285) rfl rfl
set_option maxRecDepth 100000 in
theorem zc28 : Cond.code (zY 28) (zCode 28) (zML 28) (zRT 28) ∈ zTbl := z_t (i := 289) rfl rfl
set_option maxRecDepth 100000 in
theorem zc29 : Cond.code (zY 29) (zCode 29) (zML 29) (zRT 29) ∈ zTbl := z_t (i := 346) rfl rfl
set_option maxRecDepth 100000 in
theorem zc30 : Cond.code (zY 30) (zCode 30) (zML 30) (zRT 30) ∈ zTbl := z_t (i := 350) rfl rfl
set_option maxRecDepth 100000 in
theorem zc31 : Cond.code (zY 31) (zCode 31) (zML 31) (zRT 31) ∈ zTbl := z_t (i := 354) rfl rfl
set_option maxRecDepth 100000 in
theorem zc32 : Cond.code (zY 32) (zCode 32) (zML 32) (zRT 32) ∈ zTbl := z_t (i := 358) rfl rfl
set_option maxRecDepth 100000 in
theorem zc33 : Cond.code (zY 33) (zCode 33) (zML 33) (zRT 33) ∈ zTbl := z_t (i := 362) rfl rfl
set_option maxRecDepth 100000 in
theorem zc34 : Cond.code (zY 34) (zCode 34) (zML 34) (zRT 34) ∈ zTbl := z_t (i := 365) rfl rfl
set_option maxRecDepth 100000 in
theorem zc35 : Cond.code (zY 35) (zCode 35) (zML 35) (zRT 35) ∈ zTbl := z_t (i := 369) rfl rfl
set_option maxRecDepth 100000 in
theorem zc36 : Cond.code (zY 36) (zCode 36) (zML 36) (zRT 36) ∈ zTbl := z_t (i := 373) rfl rfl
set_option maxRecDepth 100000 in
theorem zc37 : Cond.code (zY 37) (zCode 37) (zML 37) (zRT 37) ∈ zTbl := z_t (i := 377) rfl rfl
set_option maxRecDepth 100000 in
theorem zc38 : Cond.code (zY 38) (zCode 38) (zML 38) (zRT 38) ∈ zTbl := z_t (i := 381) rfl rfl
set_option maxRecDepth 100000 in
theorem zc39 : Cond.code (zY 39) (zCode 39) (zML 39) (zRT 39) ∈ zTbl := z_t (i := 385) rfl rfl
set_option maxRecDepth 100000 in
theorem zc40 : Cond.code (zY 40) (zCode 40) (zML 40) (zRT 40) ∈ zTbl := z_t (i := 389) rfl rfl
set_option maxRecDepth 100000 in
theorem zc41 : Cond.code (zY 41) (zCode 41) (zML 41) (zRT 41) ∈ zTbl := z_t (i := 392) rfl rfl
set_option maxRecDepth 100000 in
theorem zc42 : Cond.code (zY 42) (zCode 42) (zML 42) (zRT 42) ∈ zTbl := z_t (i := 396) rfl rfl
set_option maxRecDepth 100000 in
theorem zc43 : Cond.code (zY 43) (zCode 43) (zML 43) (zRT 43) ∈ zTbl := z_t (i := 401) rfl rfl
set_option maxRecDepth 100000 in
theorem zc44 : Cond.code (zY 44) (zCode 44) (zML 44) (zRT 44) ∈ zTbl := z_t (i := 405) rfl rfl
set_option maxRecDepth 100000 in
theorem zc45 : Cond.code (zY 45) (zCode 45) (zML 45) (zRT 45) ∈ zTbl := z_t (i := 408) rfl rfl
set_option maxRecDepth 100000 in
theorem zc46 : Cond.code (zY 46) (zCode 46) (zML 46) (zRT 46) ∈ zTbl := z_t (i := 412) rfl rfl
set_option maxRecDepth 100000 in
theorem zc47 : Cond.code (zY 47) (zCode 47) (zML 47) (zRT 47) ∈ zTbl := z_t (i := 416) rfl rfl
set_option maxRecDepth 100000 in
theorem zc48 : Cond.code (zY 48) (zCode 48) (zML 48) (zRT 48) ∈ zTbl := z_t (i := 420) rfl rfl
set_option maxRecDepth 100000 in
theorem zc49 : Cond.code (zY 49) (zCode 49) (zML 49) (zRT 49) ∈ zTbl := z_t (i := 424) rfl rfl
set_option maxRecDepth 100000 in
theorem zc50 : Cond.code (zY 50) (zCode 50) (zML 50) (zRT 50) ∈ zTbl := z_t (i := 429) rfl rfl
set_option maxRecDepth 100000 in
theorem zc51 : Cond.code (zY 51) (zCode 51) (zML 51) (zRT 51) ∈ zTbl := z_t (i := 433) rfl rfl
set_option maxRecDepth 100000 in
theorem zc52 : Cond.code (zY 52) (zCode 52) (zML 52) (zRT 52) ∈ zTbl := z_t (i := 438) rfl rfl
set_option maxRecDepth 100000 in
theorem zc53 : Cond.code (zY 53) (zCode 53) (zML 53) (zRT 53) ∈ zTbl := z_t (i := 442) rfl rfl
set_option maxRecDepth 100000 in
theorem zc54 : Cond.code (zY 54) (zCode 54) (zML 54) (zRT 54) ∈ zTbl := z_t (i := 446) rfl rfl
set_option maxRecDepth 100000 in
theorem zc55 : Cond.code (zY 55) (zCode 55) (zML 55) (zRT 55) ∈ zTbl := z_t (i := 450) rfl rfl
set_option maxRecDepth 100000 in
theorem zc56 : Cond.code (zY 56) (zCode 56) (zML 56) (zRT 56) ∈ zTbl := z_t (i := 455) rfl rfl
set_option maxRecDepth 100000 in
theorem zc57 : Cond.code (zY 57) (zCode 57) (zML 57) (zRT 57) ∈ zTbl := z_t (i := 459) rfl rfl
set_option maxRecDepth 100000 in
theorem zc58 : Cond.code (zY 58) (zCode 58) (zML 58) (zRT 58) ∈ zTbl := z_t (i := 463) rfl rfl
set_option maxRecDepth 100000 in
theorem zc59 : Cond.code (zY 59) (zCode 59) (zML 59) (zRT 59) ∈ zTbl := z_t (i := 467) rfl rfl
set_option maxRecDepth 100000 in
theorem zc60 : Cond.code (zY 60) (zCode 60) (zML 60) (zRT 60) ∈ zTbl := z_t (i := 471) rfl rfl
set_option maxRecDepth 100000 in
theorem zc61 : Cond.code (zY 61) (zCode 61) (zML 61) (zRT 61) ∈ zTbl := z_t (i := 475) rfl rfl
set_option maxRecDepth 100000 in
theorem zc62 : Cond.code (zY 62) (zCode 62) (zML 62) (zRT 62) ∈ zTbl := z_t (i := 479) rfl rfl
set_option maxRecDepth 100000 in
theorem zc63 : Cond.code (zY 63) (zCode 63) (zML 63) (zRT 63) ∈ zTbl := z_t (i := 483) rfl rfl
set_option maxRecDepth 100000 in
theorem zc64 : Cond.code (zY 64) (zCode 64) (zML 64) (zRT 64) ∈ zTbl := z_t (i := 487) rfl rfl
set_option maxRecDepth 100000 in
theorem zc65 : Cond.code (zY 65) (zCode 65) (zML 65) (zRT 65) ∈ zTbl := z_t (i := 491) rfl rfl
set_option maxRecDepth 100000 in
theorem zc66 : Cond.code (zY 66) (zCode 66) (zML 66) (zRT 66) ∈ zTbl := z_t (i := 495) rfl rfl
set_option maxRecDepth 100000 in
theorem zc67 : Cond.code (zY 67) (zCode 67) (zML 67) (zRT 67) ∈ zTbl := z_t (i := 499) rfl rfl
set_option maxRecDepth 100000 in
theorem zc68 : Cond.code (zY 68) (zCode 68) (zML 68) (zRT 68) ∈ zTbl := z_t (i := 503) rfl rfl
set_option maxRecDepth 100000 in
theorem zc69 : Cond.code (zY 69) (zCode 69) (zML 69) (zRT 69) ∈ zTbl := z_t (i := 509) rfl rfl
set_option maxRecDepth 100000 in
theorem zc70 : Cond.code (zY 70) (zCode 70) (zML 70) (zRT 70) ∈ zTbl := z_t (i := 629) rfl rfl
set_option maxRecDepth 100000 in
theorem zc71 : Cond.code (zY 71) (zCode 71) (zML 71) (zRT 71) ∈ zTbl := z_t (i := 634) rfl rfl
set_option maxRecDepth 100000 in
theorem zc72 : Cond.code (zY 72) (zCode 72) (zML 72) (zRT 72) ∈ zTbl := z_t (i := 638) rfl rfl
set_option maxRecDepth 100000 in
theorem zc73 : Cond.code (zY 73) (zCode 73) (zML 73) (zRT 73) ∈ zTbl := z_t (i := 642) rfl rfl
set_option maxRecDepth 100000 in
theorem zc74 : Cond.code (zY 74) (zCode 74) (zML 74) (zRT 74) ∈ zTbl := z_t (i := 646) rfl rfl
set_option maxRecDepth 100000 in
theorem zc75 : Cond.code (zY 75) (zCode 75) (zML 75) (zRT 75) ∈ zTbl := z_t (i := 650) rfl rfl
set_option maxRecDepth 100000 in
theorem zc76 : Cond.code (zY 76) (zCode 76) (zML 76) (zRT 76) ∈ zTbl := z_t (i := 653) rfl rfl
set_option maxRecDepth 100000 in
theorem zc77 : Cond.code (zY 77) (zCode 77) (zML 77) (zRT 77) ∈ zTbl := z_t (i := 657) rfl rfl
set_option maxRecDepth 100000 in
theorem zc78 : Cond.code (zY 78) (zCode 78) (zML 78) (zRT 78) ∈ zTbl := z_t (i := 661) rfl rfl
set_option maxRecDepth 100000 in
theorem zc79 : Cond.code (zY 79) (zCode 79) (zML 79) (zRT 79) ∈ zTbl := z_t (i := 665) rfl rfl
set_option maxRecDepth 100000 in
theorem zc80 : Cond.code (zY 80) (zCode 80) (zML 80) (zRT 80) ∈ zTbl := z_t (i := 669) rfl rfl
set_option maxRecDepth 100000 in
theorem zc81 : Cond.code (zY 81) (zCode 81) (zML 81) (zRT 81) ∈ zTbl := z_t (i := 673) rfl rfl
set_option maxRecDepth 100000 in
theorem zc82 : Cond.code (zY 82) (zCode 82) (zML 82) (zRT 82) ∈ zTbl := z_t (i := 677) rfl rfl
set_option maxRecDepth 100000 in
theorem zc83 : Cond.code (zY 83) (zCode 83) (zML 83) (zRT 83) ∈ zTbl := z_t (i := 681) rfl rfl
set_option maxRecDepth 100000 in
theorem zc84 : Cond.code (zY 84) (zCode 84) (zML 84) (zRT 84) ∈ zTbl := z_t (i := 685) rfl rfl
set_option maxRecDepth 100000 in
theorem zc85 : Cond.code (zY 85) (zCode 85) (zML 85) (zRT 85) ∈ zTbl := z_t (i := 689) rfl rfl
set_option maxRecDepth 100000 in
theorem zc86 : Cond.code (zY 86) (zCode 86) (zML 86) (zRT 86) ∈ zTbl := z_t (i := 693) rfl rfl
set_option maxRecDepth 100000 in
theorem zc87 : Cond.code (zY 87) (zCode 87) (zML 87) (zRT 87) ∈ zTbl := z_t (i := 697) rfl rfl
set_option maxRecDepth 100000 in
theorem zc88 : Cond.code (zY 88) (zCode 88) (zML 88) (zRT 88) ∈ zTbl := z_t (i := 701) rfl rfl
set_option maxRecDepth 100000 in
theorem zc89 : Cond.code (zY 89) (zCode 89) (zML 89) (zRT 89) ∈ zTbl := z_t (i := 705) rfl rfl
set_option maxRecDepth 100000 in
theorem zc90 : Cond.code (zY 90) (zCode 90) (zML 90) (zRT 90) ∈ zTbl := z_t (i := 709) rfl rfl
set_option maxRecDepth 100000 in
theorem zc91 : Cond.code (zY 91) (zCode 91) (zML 91) (zRT 91) ∈ zTbl := z_t (i := 713) rfl rfl
set_option maxRecDepth 100000 in
theorem zc92 : Cond.code (zY 92) (zCode 92) (zML 92) (zRT 92) ∈ zTbl := z_t (i := 717) rfl rfl
set_option maxRecDepth 100000 in
theorem zc93 : Cond.code (zY 93) (zCode 93) (zML 93) (zRT 93) ∈ zTbl := z_t (i := 721) rfl rfl
set_option maxRecDepth 100000 in
theorem zc94 : Cond.code (zY 94) (zCode 94) (zML 94) (zRT 94) ∈ zTbl := z_t (i := 725) rfl rfl
set_option maxRecDepth 100000 in
theorem zc95 : Cond.code (zY 95) (zCode 95) (zML 95) (zRT 95) ∈ zTbl := z_t (i := 729) rfl rfl
set_option maxRecDepth 100000 in
theorem zc96 : Cond.code (zY 96) (zCode 96) (zML 96) (zRT 96) ∈ zTbl := z_t (i := 733) rfl rfl
set_option maxRecDepth 100000 in
theorem zc97 : Cond.code (zY 97) (zCode 97) (zML 97) (zRT 97) ∈ zTbl := z_t (i := 737) rfl rfl
set_option maxRecDepth 100000 in
theorem zc98 : Cond.code (zY 98) (zCode 98) (zML 98) (zRT 98) ∈ zTbl := z_t (i := 741) rfl rfl
set_option maxRecDepth 100000 in
theorem zc99 : Cond.code (zY 99) (zCode 99) (zML 99) (zRT 99) ∈ zTbl := z_t (i := 745) rfl rfl
set_option maxRecDepth 100000 in
theorem zc100 : Cond.code (zY 100) (zCode 100) (zML 100) (zRT 100) ∈ zTbl := z_t (i := 749) rfl rfl
set_option maxRecDepth 100000 in
theorem zc101 : Cond.code (zY 101) (zCode 101) (zML 101) (zRT 101) ∈ zTbl := z_t (i := 753) rfl rfl
set_option maxRecDepth 100000 in
theorem zc102 : Cond.code (zY 102) (zCode 102) (zML 102) (zRT 102) ∈ zTbl := z_t (i := 757) rfl rfl
set_option maxRecDepth 100000 in
theorem zc103 : Cond.code (zY 103) (zCode 103) (zML 103) (zRT 103) ∈ zTbl := z_t (i := 761) rfl rfl
set_option maxRecDepth 100000 in
theorem zc104 : Cond.code (zY 104) (zCode 104) (zML 104) (zRT 104) ∈ zTbl := z_t (i := 765) rfl rfl
set_option maxRecDepth 100000 in
theorem zc105 : Cond.code (zY 105) (zCode 105) (zML 105) (zRT 105) ∈ zTbl := z_t (i := 769) rfl rfl
set_option maxRecDepth 100000 in
theorem zc106 : Cond.code (zY 106) (zCode 106) (zML 106) (zRT 106) ∈ zTbl := z_t (i := 773) rfl rfl
set_option maxRecDepth 100000 in
theorem zc107 : Cond.code (zY 107) (zCode 107) (zML 107) (zRT 107) ∈ zTbl := z_t (i := 777) rfl rfl
set_option maxRecDepth 100000 in
theorem zc108 : Cond.code (zY 108) (zCode 108) (zML 108) (zRT 108) ∈ zTbl := z_t (i := 781) rfl rfl
theorem zc_all : ∀ mj, 0 < mj → mj < zLaw → Cond.code (zY mj) (zCode mj) (zML mj) (zRT mj) ∈ zTbl
  | 0, h, _ => absurd h (by decide)
  | 1, _, _ => zc1
  | 2, _, _ => zc2
  | 3, _, _ => zc3
  | 4, _, _ => zc4
  | 5, _, _ => zc5
  | 6, _, _ => zc6
  | 7, _, _ => zc7
  | 8, _, _ => zc8
  | 9, _, _ => zc9
  | 10, _, _ => zc10
  | 11, _, _ => zc11
  | 12, _, _ => zc12
  | 13, _, _ => zc13
  | 14, _, _ => zc14
  | 15, _, _ => zc15
  | 16, _, _ => zc16
  | 17, _, _ => zc17
  | 18, _, _ => zc18
  | 19, _, _ => zc19
  | 20, _, _ => zc20
  | 21, _, _ => zc21
  | 22, _, _ => zc22
  | 23, _, _ => zc23
  | 24, _, _ => zc24
  | 25, _, _ => zc25
  | 26, _, _ => zc26
  | 27, _, _ => zc27
  | 28, _, _ => zc28
  | 29, _, _ => zc29
  | 30, _, _ => zc30
  | 31, _, _ => zc31
  | 32, _, _ => zc32
  | 33, _, _ => zc33
  | 34, _, _ => zc34
  | 35, _, _ => zc35
  | 36, _, _ => zc36
  | 37, _, _ => zc37
  | 38, _, _ => zc38
  | 39, _, _ => zc39
  | 40, _, _ => zc40
  | 41, _, _ => zc41
  | 42, _, _ => zc42
  | 43, _, _ => zc43
  | 44, _, _ => zc44
  | 45, _, _ => zc45
  | 46, _, _ => zc46
  | 47, _, _ => zc47
  | 48, _, _ => zc48
  | 49, _, _ => zc49
  | 50, _, _ => zc50
  | 51, _, _ => zc51
  | 52, _, _ => zc52
  | 53, _, _ => zc53
  | 54, _, _ => zc54
  | 55, _, _ => zc55
  | 56, _, _ => zc56
  | 57, _, _ => zc57
  | 58, _, _ => zc58
  | 59, _, _ => zc59
  | 60, _, _ => zc60
  | 61, _, _ => zc61
  | 62, _, _ => zc62
  | 63, _, _ => zc63
  | 64, _, _ => zc64
  | 65, _, _ => zc65
  | 66, _, _ => zc66
  | 67, _, _ => zc67
  | 68, _, _ => zc68
  | 69, _, _ => zc69
  | 70, _, _ => zc70
  | 71, _, _ => zc71
  | 72, _, _ => zc72
  | 73, _, _ => zc73
  | 74, _, _ => zc74
  | 75, _, _ => zc75
  | 76, _, _ => zc76
  | 77, _, _ => zc77
  | 78, _, _ => zc78
  | 79, _, _ => zc79
  | 80, _, _ => zc80
  | 81, _, _ => zc81
  | 82, _, _ => zc82
  | 83, _, _ => zc83
  | 84, _, _ => zc84
  | 85, _, _ => zc85
  | 86, _, _ => zc86
  | 87, _, _ => zc87
  | 88, _, _ => zc88
  | 89, _, _ => zc89
  | 90, _, _ => zc90
  | 91, _, _ => zc91
  | 92, _, _ => zc92
  | 93, _, _ => zc93
  | 94, _, _ => zc94
  | 95, _, _ => zc95
  | 96, _, _ => zc96
  | 97, _, _ => zc97
  | 98, _, _ => zc98
  | 99, _, _ => zc99
  | 100, _, _ => zc100
  | 101, _, _ => zc101
  | 102, _, _ => zc102
  | 103, _, _ => zc103
  | 104, _, _ => zc104
  | 105, _, _ => zc105
  | 106, _, _ => zc106
  | 107, _, _ => zc107
  | 108, _, _ => zc108
  | m + 109, _, h => absurd h (by unfold zLaw; omega)
end
section
/-- methods -/
def zMk (mj : Nat) : Prop := Cond.code (zY mj) (zCode mj) (zML mj) (zRT mj) ∈ zTbl ∧ plainFor (zY mj) = true ∧ (zY mj).cls ≠ "java/lang/invoke/MethodHandle" ∧ (zY mj).cls ≠ "java/lang/invoke/VarHandle" ∧ Cond.initialized (zY mj).cls ∈ zTbl ∧ zON (zOC mj) = (zY mj).cls ∧ zML mj + 19 ≤ zKK
def zMkC (mj : Nat) : Bool := match zMkL[mj]? with
  | some q => plainFor (zY mj) && decide ((zY mj).cls ≠ "java/lang/invoke/MethodHandle") && decide ((zY mj).cls ≠ "java/lang/invoke/VarHandle") && decide (tables_1[q.2.1]? = some (Cond.initialized (zY mj).cls)) && decide (zON (zOC mj) = (zY mj).cls) && decide (zML mj + 19 ≤ zKK)
  | none => false
set_option maxRecDepth 100000 in
theorem zMkC_ok : ((List.range zLaw).drop 1).all zMkC = true := by decide +kernel
theorem zMk_ok {mj : Nat} (h0 : 0 < mj) (h1 : mj < zLaw) : zMk mj := by
  have hm : mj ∈ (List.range zLaw).drop 1 := by
    refine List.mem_of_getElem? (i := mj - 1) ?_
    rw [List.getElem?_drop, List.getElem?_range (by omega)]
    congr 1
    omega
  have h2 := List.all_eq_true.mp zMkC_ok mj hm
  unfold zMkC at h2
  split at h2
  · simp only [Bool.and_eq_true, decide_eq_true_eq] at h2
    obtain ⟨⟨⟨⟨⟨g2, g3⟩, g4⟩, g5⟩, g6⟩, g7⟩ := h2
    exact ⟨zc_all mj h0 h1, g2, g3, g4, z_t g5 rfl, g6, g7⟩
  · cases h2
/-- calls -/
def zMtC (q : Nat × Nat × Nat × Nat × Nat × Nat × Nat) : Bool :=
  match q.2.2.2.2.1, zMkL[q.2.2.1]? with
  | 3, some r => decide (tables_1[q.2.2.2.2.2.1]? = some (Cond.methodLink (zON q.1) q.2.1 Lib.objectInit)) && decide (tables_1[(zMkL.getD 0 (0, 0, 0, 0)).2.2.1]? = some (Cond.instanceMethod Lib.objectInit)) && decide (tables_1[(zMkL.getD 0 (0, 0, 0, 0)).1]? = some (Cond.code Lib.objectInit ⟨#[0xb1]⟩ 1 none))
  | how, some r => decide (0 < q.2.2.1) && decide (q.2.2.1 < zLaw) && decide ((parseMethodDescriptor (zY q.2.2.1).desc).map (fun d => d.parameters.length) = some q.2.2.2.1) && (match q.2.2.2.2.2.2 with
      | 0 => decide (tables_1[q.2.2.2.2.2.1]? = some (Cond.methodLink (zON q.1) q.2.1 (zY q.2.2.1)))
      | _ => decide (tables_1[q.2.2.2.2.2.1]? = some (Cond.methodLinkNest (zON q.1) q.2.1 (zY q.2.2.1) "StepWalk"))) && (match how with
      | 0 => decide (tables_1[r.2.2.1]? = some (Cond.instanceMethod (zY q.2.2.1))) && decide (lw_tbl[r.2.2.2]? = some (Cond.selects (zY q.2.2.1).cls (zY q.2.2.1) (zY q.2.2.1))) && (match vwCl[zOC q.2.2.1]? with | some c => decide (c.1 = (zY q.2.2.1).cls) | none => false)
      | 1 => decide (tables_1[r.2.2.1]? = some (Cond.instanceMethod (zY q.2.2.1))) && decide ((zY q.2.2.1).name = "<init>") && decide (zRT q.2.2.1 = none)
      | 2 => decide (tables_1[r.2.2.1]? = some (Cond.static (zY q.2.2.1)))
      | _ => false)
  | _, none => false
set_option maxRecDepth 100000 in
theorem zMtC_ok : zMtL.all zMtC = true := by decide +kernel
def zLk (oc idx mj : Nat) : Prop := Cond.methodLink (zON oc) idx (zY mj) ∈ zTbl ∨ ∃ host, Cond.methodLinkNest (zON oc) idx (zY mj) host ∈ zNst
theorem zMt_ok {oc idx mj n how : Nat} (h : zMt oc idx = some (mj, n, how)) :
    (how = 3 → Cond.methodLink (zON oc) idx Lib.objectInit ∈ zTbl ∧ Cond.instanceMethod Lib.objectInit ∈ zTbl ∧ Cond.code Lib.objectInit ⟨#[0xb1]⟩ 1 none ∈ zTbl) ∧
    (how < 3 → zMk mj ∧ (parseMethodDescriptor (zY mj).desc).map (fun d => d.parameters.length) = some n ∧ zLk oc idx mj ∧
      ((how = 0 ∧ Cond.instanceMethod (zY mj) ∈ zTbl ∧ Cond.selects (zY mj).cls (zY mj) (zY mj) ∈ zTbl ∧ ∃ r0, zRC mj = some (zOC mj) ∧ vwCl[zOC mj]? = some r0 ∧ r0.1 = (zY mj).cls) ∨
       (how = 1 ∧ Cond.instanceMethod (zY mj) ∈ zTbl ∧ (zY mj).name = "<init>" ∧ zRT mj = none) ∨
       (how = 2 ∧ Cond.static (zY mj) ∈ zTbl))) := by
  obtain ⟨q, hq, hk, he⟩ := z_find h
  obtain ⟨q1, q2, q3, q4, q5, q6, q7⟩ := q
  cases he
  simp only [Bool.and_eq_true, beq_iff_eq] at hk
  obtain ⟨rfl, rfl⟩ := hk
  have h1 := List.all_eq_true.mp zMtC_ok _ hq
  unfold zMtC at h1
  dsimp only at h1
  split at h1
  · simp only [Bool.and_eq_true, decide_eq_true_eq] at h1
    exact ⟨fun _ => ⟨z_t h1.1.1 rfl, z_t h1.1.2 rfl, z_t h1.2 rfl⟩, fun hh => absurd (show 3 < 3 from hh) (by decide)⟩
  · rename_i r hr
    simp only [Bool.and_eq_true, decide_eq_true_eq] at h1
    obtain ⟨⟨⟨⟨g1, g2⟩, g3⟩, g4⟩, g5⟩ := h1
    refine ⟨fun hh => ?_, fun _ => ⟨zMk_ok g1 g2, g3, ?_, ?_⟩⟩
    · subst hh; simp at g5
    · split at g4
      · exact Or.inl (z_t (of_decide_eq_true g4) rfl)
      · exact Or.inr ⟨_, z_n (of_decide_eq_true g4) rfl⟩
    · split at g5
      · simp only [Bool.and_eq_true, decide_eq_true_eq] at g5
        obtain ⟨⟨k1, k2⟩, k3⟩ := g5
        split at k3
        · rename_i c hc
          exact Or.inl ⟨rfl, z_t k1 rfl, z_l k2 rfl, c, by unfold zRC; rw [if_pos (zCl_lt8 hc)], hc, of_decide_eq_true k3⟩
        · cases k3
      · simp only [Bool.and_eq_true, decide_eq_true_eq] at g5
        exact Or.inr (Or.inl ⟨rfl, z_t g5.1.1 rfl, g5.1.2, g5.2⟩)
      · exact Or.inr (Or.inr ⟨rfl, z_t (of_decide_eq_true g5) rfl⟩)
      · cases g5
  · cases h1
end
section
/-! the rules of the pure machine: one instruction at a time, goal first -/
theorem zgo_mono {S : zS} : ∀ (n : Nat) {d mi pc : Nat} {L : List (Nat × Value)} {st : List Value} {w : zW} {r : Option Value × zW}, zgo S n d mi pc L st w = some r → zgo S (n + 1) d mi pc L st w = some r := by
  intro n
  induction n with
  | zero => intro d mi pc L st w r h; simp [zgo] at h
  | succ n ih =>
    intro d mi pc L st w r h
    rw [zgo] at h ⊢
    cases hd : decode (zCode mi) pc with
    | error x => rw [hd] at h; simp at h
    | ok q =>
      obtain ⟨ins, len⟩ := q
      rw [hd] at h
      dsimp only at h ⊢
      cases hz : zst S mi ins len pc L st w with
      | none => rw [hz] at h; simp at h
      | some q =>
        rw [hz] at h
        obtain ⟨pc', L', st', w'⟩ | ⟨mj, as, rest⟩ | v := q
        · exact ih h
        · dsimp only at h ⊢
          cases d with
          | zero => simp at h
          | succ d =>
            dsimp only at h ⊢
            cases hc : zgo S n d mj 0 (lv_args 0 as) [] w with
            | none => rw [hc] at h; simp at h
            | some q =>
              obtain ⟨v, w'⟩ := q
              rw [hc] at h
              rw [ih hc]
              exact ih h
        · exact h
theorem zgo_le {S : zS} {n m d mi pc : Nat} {L : List (Nat × Value)} {st : List Value} {w : zW} {r : Option Value × zW} (h : zgo S n d mi pc L st w = some r) (hm : n ≤ m) : zgo S m d mi pc L st w = some r := by
  induction hm with
  | refl => exact h
  | step _ ih => exact zgo_mono _ ih
section ZK
variable {S : zS} {d mi pc len : Nat} {ins : Jvm.ClassFile.Instr} {L : List (Nat × Value)} {st : List Value} {w : zW} {Post : Option Value → zW → Prop}
theorem zk_next {pc' : Nat} {L' : List (Nat × Value)} {st' : List Value} {w' : zW} (hd : decode (zCode mi) pc = .ok (ins, len)) (hz : zst S mi ins len pc L st w = some (.inl (pc', L', st', w'))) (k : zOk S d mi pc' L' st' w' Post) : zOk S d mi pc L st w Post := by
  obtain ⟨n, v, wf, h, hp⟩ := k
  exact ⟨n + 1, v, wf, by rw [zgo, hd]; dsimp only; rw [hz]; exact h, hp⟩
theorem zk_ret {v : Option Value} (hd : decode (zCode mi) pc = .ok (ins, len)) (hg : zgr ins = 5) (hz : zrt mi ins len st = some v) (k : Post v w) : zOk S d mi pc L st w Post :=
  ⟨1, v, w, by rw [zgo, hd]; simp only [zst, hg, hz, Option.map_some], k⟩
theorem zk_call {mj : Nat} {as rest : List Value} {Pc : Option Value → zW → Prop} (hd : decode (zCode mi) pc = .ok (ins, len)) (hg : zgr ins = 4) (hz : zcl mi ins len st w = some (mj, as, rest)) (hc : zOk S d mj 0 (lv_args 0 as) [] w Pc)
    (k : ∀ v w', Pc v w' → zOk S (d + 1) mi (pc + 3) L (v.toList ++ rest) w' Post) : zOk S (d + 1) mi pc L st w Post := by
  obtain ⟨n, v, wf, h, hp⟩ := hc
  obtain ⟨n2, v2, wf2, h2, hp2⟩ := k v wf hp
  refine ⟨max n n2 + 1, v2, wf2, ?_, hp2⟩
  rw [zgo, hd]
  simp only [zst, hg, hz, Option.map_some]
  rw [zgo_le h (Nat.le_max_left n n2)]
  exact zgo_le h2 (Nat.le_max_right n n2)
theorem zk_alu {st' : List Value} (hd : decode (zCode mi) pc = .ok (ins, len)) (hg : zgr ins = 0) (ha : zalu ins len st = some st') (k : zOk S d mi (pc + len) L st' w Post) : zOk S d mi pc L st w Post :=
  zk_next hd (by simp only [zst, hg, ha, Option.map_some]) k
theorem zk_loc {L' : List (Nat × Value)} {st' : List Value} (hd : decode (zCode mi) pc = .ok (ins, len)) (hg : zgr ins = 1) (ha : zloc (zML mi) ins len L st = some (L', st')) (k : zOk S d mi (pc + len) L' st' w Post) : zOk S d mi pc L st w Post :=
  zk_next hd (by simp only [zst, hg, ha, Option.map_some]) k
theorem zk_br {pc' : Nat} {st' : List Value} (hd : decode (zCode mi) pc = .ok (ins, len)) (hg : zgr ins = 2) (ha : zbr ins len pc st = some (pc', st')) (k : zOk S d mi pc' L st' w Post) : zOk S d mi pc L st w Post :=
  zk_next hd (by simp only [zst, hg, ha, Option.map_some]) k
theorem zk_hp {st' : List Value} {w' : zW} (hd : decode (zCode mi) pc = .ok (ins, len)) (hg : zgr ins = 3) (ha : zhp S mi ins len st w = some (st', w')) (k : zOk S d mi (pc + len) L st' w' Post) : zOk S d mi pc L st w Post :=
  zk_next hd (by simp only [zst, hg, ha, Option.map_some]) k
/-- a branch of two ways -/
theorem zk_if {off : Int} {tgt : Nat} {r : List Value} {b : Bool} (hd : decode (zCode mi) pc = .ok (ins, len)) (hg : zgr ins = 2) (ha : zbr ins len pc st = zbc pc off r b) (ht : (pc : Int) + off = (tgt : Int)) (kt : b = true → zOk S d mi tgt L r w Post) (kf : b = false → zOk S d mi (pc + 3) L r w Post) : zOk S d mi pc L st w Post := by
  have h0 : 0 ≤ (pc : Int) + off := by omega
  have h1 : ztg pc off = tgt := by unfold ztg; omega
  cases b with
  | true => exact zk_br hd hg (by rw [ha, zbc, if_pos h0, if_pos rfl, h1]) (kt rfl)
  | false => exact zk_br hd hg (by rw [ha, zbc, if_pos h0, if_neg (by decide)]) (kf rfl)
/-- a jump -/
theorem zk_goto {off : Int} {tgt : Nat} {r : List Value} (hd : decode (zCode mi) pc = .ok (ins, len)) (hg : zgr ins = 2) (ha : zbr ins len pc st = zbc pc off r true) (ht : (pc : Int) + off = (tgt : Int)) (kt : zOk S d mi tgt L r w Post) : zOk S d mi pc L st w Post := by
  have h0 : 0 ≤ (pc : Int) + off := by omega
  have h1 : ztg pc off = tgt := by unfold ztg; omega
  exact zk_br hd hg (by rw [ha, zbc, if_pos h0, if_pos rfl, h1]) kt
/-- a branch that isn't taken -/
theorem zk_stay {off : Int} {tgt : Nat} {r : List Value} (hd : decode (zCode mi) pc = .ok (ins, len)) (hg : zgr ins = 2) (ha : zbr ins len pc st = zbc pc off r false) (ht : (pc : Int) + off = (tgt : Int)) (kf : zOk S d mi (pc + 3) L r w Post) : zOk S d mi pc L st w Post := by
  have h0 : 0 ≤ (pc : Int) + off := by omega
  exact zk_br hd hg (by rw [ha, zbc, if_pos h0, if_neg (by decide)]) kf
theorem zk_get {idx a ci k N : Nat} {r : List Value} {v : Value} (hd : decode (zCode mi) pc = .ok (.getfield idx, 3)) (hf : zFld (zOC mi) idx = some (ci, k)) (hs : w.2.1 a = some (ci, N)) (hv : w.2.2 a k = v) (kk : zOk S d mi (pc + 3) L (v :: r) w Post) : zOk S d mi pc L (.ref a :: r) w Post :=
  zk_hp hd rfl (by simp [zhp, hf, hs, hv]) kk
theorem zk_put {idx a ci k N : Nat} {r : List Value} {v : Value} (hd : decode (zCode mi) pc = .ok (.putfield idx, 3)) (hf : zFld (zOC mi) idx = some (ci, k)) (hs : w.2.1 a = some (ci, N)) (hp : zPf mi ci k v) (kk : zOk S d mi (pc + 3) L r (zset w a k v) Post) : zOk S d mi pc L (v :: .ref a :: r) w Post :=
  zk_hp hd rfl (by simp only [zhp, hf, hs]; rw [if_pos ⟨trivial, hp⟩]) kk
theorem zk_new {idx ci : Nat} {r : List Value} (hd : decode (zCode mi) pc = .ok (.new idx, 3)) (hf : zNew (zOC mi) idx = some ci) (kk : zOk S d mi (pc + 3) L (.ref w.1.1 :: r) (zpush w ci (zN ci) (zBl ci)) Post) : zOk S d mi pc L r w Post :=
  zk_hp hd rfl (by simp only [zhp, hf]) kk
theorem zk_newa {t : Jvm.ClassFile.ArrayType} {n : Int32} {k N : Nat} {r : List Value} (hd : decode (zCode mi) pc = .ok (.newarray t, 2)) (hf : zNA t = some k) (hn : ¬ n < 0) (hN : n.toNatClampNeg = N) (hm : N ≤ 60000000) (kk : zOk S d mi (pc + 2) L (.ref w.1.1 :: r) (zpush w (100 + k) N (fun _ => defaultValue (zAK k))) Post) : zOk S d mi pc L (.int n :: r) w Post := by
  subst hN
  exact zk_hp hd rfl (by simp only [zhp, hf]; rw [if_pos ⟨hn, hm⟩]) kk
theorem zk_newq {idx k N : Nat} {n : Int32} {r : List Value} (hd : decode (zCode mi) pc = .ok (.anewarray idx, 3)) (hf : zAN (zOC mi) idx = some k) (hn : ¬ n < 0) (hN : n.toNatClampNeg = N) (hm : N ≤ 60000000) (kk : zOk S d mi (pc + 3) L (.ref w.1.1 :: r) (zpush w (100 + k) N (fun _ => .null)) Post) : zOk S d mi pc L (.int n :: r) w Post := by
  subst hN
  exact zk_hp hd rfl (by simp only [zhp, hf]; rw [if_pos ⟨hn, hm⟩]) kk
theorem zk_len {a c n : Nat} {r : List Value} (hd : decode (zCode mi) pc = .ok (.arraylength, 1)) (hs : w.2.1 a = some (c, n)) (hc : 100 ≤ c) (kk : zOk S d mi (pc + 1) L (.int (Int32.ofNat n) :: r) w Post) : zOk S d mi pc L (.ref a :: r) w Post :=
  zk_hp hd rfl (by simp only [zhp, hs]; rw [if_pos hc]) kk
theorem zk_lenS {r : List Value} (hd : decode (zCode mi) pc = .ok (.arraylength, 1)) (hs : w.2.1 S.1 = none) (kk : zOk S d mi (pc + 1) L (.int (Int32.ofNat S.2.1) :: r) w Post) : zOk S d mi pc L (.ref S.1 :: r) w Post :=
  zk_hp hd rfl (by simp only [zhp, hs]; rw [if_pos trivial]) kk
theorem zk_ildS {i : Int32} {r : List Value} (hd : decode (zCode mi) pc = .ok (.iaload, 1)) (hs : w.2.1 S.1 = none) (hi : zix i S.2.1) (kk : zOk S d mi (pc + 1) L (.int (S.2.2 i.toNatClampNeg) :: r) w Post) : zOk S d mi pc L (.int i :: .ref S.1 :: r) w Post :=
  zk_hp hd rfl (by simp only [zhp, hs]; rw [if_pos ⟨trivial, hi⟩]) kk
theorem zk_ild {a k n : Nat} {i : Int32} {v : Value} {r : List Value} (hd : decode (zCode mi) pc = .ok (.iaload, 1)) (hs : w.2.1 a = some (100 + k, n)) (ht : zAK k = .int) (hi : zix i n) (hv : w.2.2 a i.toNatClampNeg = v) (kk : zOk S d mi (pc + 1) L (v :: r) w Post) : zOk S d mi pc L (.int i :: .ref a :: r) w Post :=
  zk_hp hd rfl (by simp only [zhp, hs, hv]; rw [if_pos ⟨by omega, by rw [Nat.add_sub_cancel_left]; exact ht, hi⟩]) kk
theorem zk_lld {a k n : Nat} {i : Int32} {v : Value} {r : List Value} (hd : decode (zCode mi) pc = .ok (.laload, 1)) (hs : w.2.1 a = some (100 + k, n)) (ht : zAK k = .long) (hi : zix i n) (hv : w.2.2 a i.toNatClampNeg = v) (kk : zOk S d mi (pc + 1) L (v :: r) w Post) : zOk S d mi pc L (.int i :: .ref a :: r) w Post :=
  zk_hp hd rfl (by simp only [zhp, hs, hv]; rw [if_pos ⟨by omega, by rw [Nat.add_sub_cancel_left]; exact ht, hi⟩]) kk
theorem zk_zld {a k n : Nat} {i : Int32} {v : Value} {r : List Value} (hd : decode (zCode mi) pc = .ok (.baload, 1)) (hs : w.2.1 a = some (100 + k, n)) (ht : zAK k = .boolean) (hi : zix i n) (hv : w.2.2 a i.toNatClampNeg = v) (kk : zOk S d mi (pc + 1) L (v :: r) w Post) : zOk S d mi pc L (.int i :: .ref a :: r) w Post :=
  zk_hp hd rfl (by simp only [zhp, hs, hv]; rw [if_pos ⟨by omega, by rw [Nat.add_sub_cancel_left]; exact ht, hi⟩]) kk
theorem zk_ald {a k n : Nat} {i : Int32} {v : Value} {r : List Value} (hd : decode (zCode mi) pc = .ok (.aaload, 1)) (hs : w.2.1 a = some (100 + k, n)) (ht : (zAc k).isSome = true) (hi : zix i n) (hv : w.2.2 a i.toNatClampNeg = v) (kk : zOk S d mi (pc + 1) L (v :: r) w Post) : zOk S d mi pc L (.int i :: .ref a :: r) w Post :=
  zk_hp hd rfl (by simp only [zhp, hs, hv]; rw [if_pos ⟨by omega, by rw [Nat.add_sub_cancel_left]; exact ht, hi⟩]) kk
theorem zk_ist {a k n : Nat} {i x : Int32} {r : List Value} (hd : decode (zCode mi) pc = .ok (.iastore, 1)) (hs : w.2.1 a = some (100 + k, n)) (ht : zAK k = .int) (hi : zix i n) (kk : zOk S d mi (pc + 1) L r (zset w a i.toNatClampNeg (.int x)) Post) : zOk S d mi pc L (.int x :: .int i :: .ref a :: r) w Post :=
  zk_hp hd rfl (by simp only [zhp, hs]; rw [if_pos ⟨by omega, by rw [Nat.add_sub_cancel_left]; exact ht, hi⟩]) kk
theorem zk_lst {a k n : Nat} {i : Int32} {x : Int64} {r : List Value} (hd : decode (zCode mi) pc = .ok (.lastore, 1)) (hs : w.2.1 a = some (100 + k, n)) (ht : zAK k = .long) (hi : zix i n) (kk : zOk S d mi (pc + 1) L r (zset w a i.toNatClampNeg (.long x)) Post) : zOk S d mi pc L (.long x :: .int i :: .ref a :: r) w Post :=
  zk_hp hd rfl (by simp only [zhp, hs]; rw [if_pos ⟨by omega, by rw [Nat.add_sub_cancel_left]; exact ht, hi⟩]) kk
theorem zk_zst {a k n : Nat} {i x : Int32} {r : List Value} (hd : decode (zCode mi) pc = .ok (.bastore, 1)) (hs : w.2.1 a = some (100 + k, n)) (ht : zAK k = .boolean) (hx : narrow .boolean (.int x) = .int x) (hi : zix i n) (kk : zOk S d mi (pc + 1) L r (zset w a i.toNatClampNeg (.int x)) Post) : zOk S d mi pc L (.int x :: .int i :: .ref a :: r) w Post :=
  zk_hp hd rfl (by simp only [zhp, hs]; rw [if_pos ⟨by omega, by rw [Nat.add_sub_cancel_left]; exact ht, hx, hi⟩]) kk
theorem zk_ast {a b k n cj N : Nat} {i : Int32} {r : List Value} (hd : decode (zCode mi) pc = .ok (.aastore, 1)) (hs : w.2.1 a = some (100 + k, n)) (hb : w.2.1 b = some (cj, N)) (ht : zAc k = some cj) (hi : zix i n) (kk : zOk S d mi (pc + 1) L r (zset w a i.toNatClampNeg (.ref b)) Post) : zOk S d mi pc L (.ref b :: .int i :: .ref a :: r) w Post :=
  zk_hp hd rfl (by simp only [zhp, hs, hb]; rw [if_pos ⟨by omega, by rw [Nat.add_sub_cancel_left]; exact ht, hi⟩]) kk
theorem zOk.mono {Q : Option Value → zW → Prop} (h : zOk S d mi pc L st w Post) (hq : ∀ v w', Post v w' → Q v w') : zOk S d mi pc L st w Q := by
  obtain ⟨n, v, wf, h1, h2⟩ := h
  exact ⟨n, v, wf, h1, hq v wf h2⟩
end ZK
theorem zgo_deep {S : zS} : ∀ (n : Nat) {d mi pc : Nat} {L : List (Nat × Value)} {st : List Value} {w : zW} {r : Option Value × zW}, zgo S n d mi pc L st w = some r → zgo S n (d + 1) mi pc L st w = some r := by
  intro n
  induction n with
  | zero => intro d mi pc L st w r h; simp [zgo] at h
  | succ n ih =>
    intro d mi pc L st w r h
    rw [zgo] at h ⊢
    cases hd : decode (zCode mi) pc with
    | error x => rw [hd] at h; simp at h
    | ok q =>
      obtain ⟨ins, len⟩ := q
      rw [hd] at h
      dsimp only at h ⊢
      cases hz : zst S mi ins len pc L st w with
      | none => rw [hz] at h; simp at h
      | some q =>
        rw [hz] at h
        obtain ⟨pc', L', st', w'⟩ | ⟨mj, as, rest⟩ | v := q
        · exact ih h
        · dsimp only at h ⊢
          cases d with
          | zero => simp at h
          | succ d =>
            dsimp only at h ⊢
            cases hc : zgo S n d mj 0 (lv_args 0 as) [] w with
            | none => rw [hc] at h; simp at h
            | some q =>
              obtain ⟨v, w'⟩ := q
              rw [hc] at h
              rw [ih hc]
              exact ih h
        · exact h
theorem zOk.deep {S : zS} {d d2 mi pc : Nat} {L : List (Nat × Value)} {st : List Value} {w : zW} {Post : Option Value → zW → Prop} (h : zOk S d mi pc L st w Post) (hd : d ≤ d2) : zOk S d2 mi pc L st w Post := by
  obtain ⟨n, v, wf, h1, h2⟩ := h
  refine ⟨n, v, wf, ?_, h2⟩
  induction hd with
  | refl => exact h1
  | step _ ih => exact zgo_deep n ih
end
section
/-! the pure machine's steps are the machine's: stack, locals, branches -/
theorem zlk_mem {i : Nat} {v : Value} : ∀ {L : List (Nat × Value)}, zlk i L = some v → (i, v) ∈ L := by
  intro L
  induction L with
  | nil => intro h; simp [zlk] at h
  | cons q t ih =>
    intro h
    obtain ⟨j, u⟩ := q
    rw [zlk] at h
    by_cases hj : j = i
    · rw [if_pos hj] at h
      cases h
      subst hj
      exact List.mem_cons_self
    · rw [if_neg hj] at h
      exact List.mem_cons_of_mem _ (ih h)
theorem zins_mem {i : Nat} {v : Value} {x : Nat × Value} : ∀ {L : List (Nat × Value)}, x ∈ zins i v L → x ∈ (i, v) :: L := by
  intro L
  induction L with
  | nil => exact fun h => h
  | cons q t ih =>
    intro h
    unfold zins at h
    cases hb : Nat.ble i q.1 with
    | true => rw [hb] at h; exact h
    | false =>
      rw [hb] at h
      rcases List.mem_cons.mp h with h | h
      · exact List.mem_cons_of_mem _ (List.mem_cons.mpr (Or.inl h))
      · rcases List.mem_cons.mp (ih h) with h | h
        · exact List.mem_cons.mpr (Or.inl h)
        · exact List.mem_cons_of_mem _ (List.mem_cons_of_mem _ h)
theorem zins_has {ls : Array Slot} {nL i : Nat} {v : Value} {L : List (Nat × Value)} (h : lv_has ls nL ((i, v) :: L)) : lv_has ls nL (zins i v L) := ⟨h.1, h.2.1, fun q hq => h.2.2 q (zins_mem hq)⟩
theorem zbc_inv {pc : Nat} {off : Int} {r : List Value} {b : Bool} {pc' : Nat} {st' : List Value} (h : zbc pc off r b = some (pc', st')) : (pc : Int) + off = (ztg pc off : Int) ∧ r = st' ∧ (if b = true then ztg pc off else pc + 3) = pc' := by
  unfold zbc at h
  split at h
  · rename_i h0
    cases h
    exact ⟨by unfold ztg; omega, rfl, rfl⟩
  · cases h
section ZSIM1
variable {p : Program} {l : Launch} {e : Env} {R : Room} {s : State} {m : MethodId} {args : Array Value} {below : List Frame} {meth : Method} {c : Code} {H : Heap} {locs : List Loc} {cells slots : Nat} {Q : State → Prop}
variable {cc : ByteArray} {pc len : Nat} {ls : Array Slot} {ins : Jvm.ClassFile.Instr}
set_option maxHeartbeats 4000000 in
theorem zs_alu {st st' : List Value} (hx : p.tables.exec = Jvm.exec) (hb : c.code = cc) (hd : decode cc pc = .ok (ins, len)) (h : zalu ins len st = some st')
    (k : W p l e R s m args below meth c H locs cells slots Q (F0 m (pc + len) ls st')) : W p l e R s m args below meth c H locs cells slots Q (F0 m pc ls st) := by
  unfold zalu at h
  split at h
  · cases h; exact lv_iconst hx hb hd rfl k
  · cases h; exact lv_bipush hx hb hd rfl k
  · cases h; exact lv_sipush hx hb hd rfl k
  · cases h; exact lv_lconst hx hb hd rfl k
  · cases h; exact lv_null hx hb hd k
  · cases h; exact lv_iadd hx hb hd k
  · cases h; exact lv_isub hx hb hd k
  · cases h; exact lv_imul hx hb hd k
  · split at h
    · cases h
    · cases h; exact lv_idiv hx hb hd (by assumption) k
  · split at h
    · cases h
    · cases h; exact lv_irem hx hb hd (by assumption) k
  · cases h; exact lv_ineg hx hb hd k
  · cases h; exact lv_iand hx hb hd k
  · cases h; exact lv_ior hx hb hd k
  · cases h; exact lv_ixor hx hb hd k
  · cases h; exact lv_ishl hx hb hd k
  · cases h; exact lv_ishr hx hb hd k
  · cases h; exact lv_iushr hx hb hd rfl k
  · cases h; exact lv_ladd hx hb hd k
  · cases h; exact lv_lsub hx hb hd k
  · cases h; exact lv_lmul hx hb hd k
  · split at h
    · cases h
    · cases h; exact lv_ldiv hx hb hd (by assumption) k
  · split at h
    · cases h
    · cases h; exact lv_lrem hx hb hd (by assumption) k
  · cases h; exact lv_lneg hx hb hd k
  · cases h; exact lv_land hx hb hd k
  · cases h; exact lv_lor hx hb hd k
  · cases h; exact lv_lxor hx hb hd k
  · cases h; exact lv_lshl hx hb hd rfl k
  · cases h; exact lv_lshr hx hb hd rfl k
  · cases h; exact lv_lushr hx hb hd rfl k
  · cases h; exact lv_i2l hx hb hd rfl k
  · cases h; exact lv_l2i hx hb hd rfl k
  · cases h; exact W.lcmp hx hb hd k
  · split at h
    · cases h; exact lv_dup hx hb hd (by assumption) k
    · cases h
  · split at h
    · cases h; exact lv_pop hx hb hd (by assumption) k
    · cases h
  · split at h
    · rename_i hc; cases h; exact lv_dup_x1 hx hb hd hc.1 hc.2 k
    · cases h
  · split at h
    · rename_i hc; cases h; exact lv_dup_x2 hx hb hd hc.1 hc.2.1 hc.2.2 k
    · cases h
  · split at h
    · rename_i hc; cases h; exact lv_dup2_11 hx hb hd hc.1 hc.2 k
    · cases h
  · cases h
set_option maxHeartbeats 4000000 in
theorem zs_loc {nL : Nat} {L L' : List (Nat × Value)} {st st' : List Value} (hx : p.tables.exec = Jvm.exec) (hb : c.code = cc) (hd : decode cc pc = .ok (ins, len)) (hl : lv_has ls nL L) (h : zloc nL ins len L st = some (L', st'))
    (k : ∀ ls' : Array Slot, lv_has ls' nL L' → W p l e R s m args below meth c H locs cells slots Q (F0 m (pc + len) ls' st')) : W p l e R s m args below meth c H locs cells slots Q (F0 m pc ls st) := by
  have at' : ∀ {i : Nat} {v : Value}, zlk i L = some v → ls[i]? = some (.val v) := fun h => hl.2.2 _ (zlk_mem h)
  unfold zloc at h
  split at h
  · split at h
    · rename_i hz; cases h; exact lv_iload_n hx hb hd rfl (at' hz) (k ls hl)
    · cases h
  · split at h
    · rename_i hz; cases h; exact lv_iload hx hb hd (at' hz) (k ls hl)
    · cases h
  · split at h
    · rename_i hz; cases h; exact lv_lload_n hx hb hd rfl (at' hz) (k ls hl)
    · cases h
  · split at h
    · rename_i hz; cases h; exact lv_lload hx hb hd (at' hz) (k ls hl)
    · cases h
  · split at h
    · rename_i hz; cases h; exact lv_aload_n hx hb hd rfl (at' hz) (k ls hl)
    · rename_i hz; cases h; exact lv_aload_nN hx hb hd rfl (at' hz) (k ls hl)
    · cases h
  · split at h
    · rename_i hz; cases h; exact lv_aload hx hb hd (at' hz) (k ls hl)
    · rename_i hz; cases h; exact lv_aloadN hx hb hd (at' hz) (k ls hl)
    · cases h
  · split at h
    · rename_i hn; cases h; exact lv_istore_n hx hb hd rfl hl hn rfl (fun ls' h' => k ls' (zins_has h'))
    · cases h
  · split at h
    · rename_i hn; cases h; exact lv_istore hx hb hd hl hn rfl (fun ls' h' => k ls' (zins_has h'))
    · cases h
  · split at h
    · rename_i hn; cases h; exact lv_lstore_n hx hb hd rfl hl hn rfl (fun ls' h' => k ls' (zins_has h'))
    · cases h
  · split at h
    · rename_i hn; cases h; exact lv_lstore hx hb hd hl hn rfl (fun ls' h' => k ls' (zins_has h'))
    · cases h
  · split at h
    · rename_i hn; cases h; exact lv_astore_n hx hb hd rfl hl hn rfl (fun ls' h' => k ls' (zins_has h'))
    · cases h
  · split at h
    · rename_i hn; cases h; exact lv_astore_nN hx hb hd rfl hl hn rfl (fun ls' h' => k ls' (zins_has h'))
    · cases h
  · split at h
    · rename_i hn; cases h; exact lv_astore hx hb hd hl hn rfl (fun ls' h' => k ls' (zins_has h'))
    · cases h
  · split at h
    · rename_i hn; cases h; exact lv_astoreN hx hb hd hl hn rfl (fun ls' h' => k ls' (zins_has h'))
    · cases h
  · split at h
    · rename_i hz
      split at h
      · rename_i hn
        cases h
        obtain ⟨j, hj⟩ := List.getElem?_of_mem (zlk_mem hz)
        exact lv_iinc hx hb hd hl hj rfl hn rfl (fun ls' h' => k ls' (zins_has h'))
      · cases h
    · cases h
  · cases h
set_option maxHeartbeats 4000000 in
theorem zs_br {st st' : List Value} {pc' : Nat} (hx : p.tables.exec = Jvm.exec) (hb : c.code = cc) (hd : decode cc pc = .ok (ins, len)) (h : zbr ins len pc st = some (pc', st'))
    (k : W p l e R s m args below meth c H locs cells slots Q (F0 m pc' ls st')) : W p l e R s m args below meth c H locs cells slots Q (F0 m pc ls st) := by
  unfold zbr at h
  split at h
  · obtain ⟨ht, rfl, rfl⟩ := zbc_inv h
    exact lv_if_eq hx hb hd ht (fun q => by simpa [q] using k) (fun q => by simpa [q] using k)
  · obtain ⟨ht, rfl, rfl⟩ := zbc_inv h
    exact lv_if_ne hx hb hd ht (fun q => by simpa [q] using k) (fun q => by simpa [q] using k)
  · obtain ⟨ht, rfl, rfl⟩ := zbc_inv h
    exact lv_if_lt hx hb hd ht (fun q => by simpa only [q, decide_true, if_true] using k) (fun q => by simpa only [q, decide_false, Bool.false_eq_true, if_false] using k)
  · obtain ⟨ht, rfl, rfl⟩ := zbc_inv h
    exact lv_if_ge hx hb hd ht (fun q => by simpa only [q, decide_true, if_true] using k) (fun q => by simpa only [q, decide_false, Bool.false_eq_true, if_false] using k)
  · obtain ⟨ht, rfl, rfl⟩ := zbc_inv h
    exact lv_if_gt hx hb hd ht (fun q => by simpa only [q, decide_true, if_true] using k) (fun q => by simpa only [q, decide_false, Bool.false_eq_true, if_false] using k)
  · obtain ⟨ht, rfl, rfl⟩ := zbc_inv h
    exact lv_if_le hx hb hd ht (fun q => by simpa only [q, decide_true, if_true] using k) (fun q => by simpa only [q, decide_false, Bool.false_eq_true, if_false] using k)
  · obtain ⟨ht, rfl, rfl⟩ := zbc_inv h
    exact lv_icmp_eq hx hb hd ht (fun q => by simpa [q] using k) (fun q => by simpa [q] using k)
  · obtain ⟨ht, rfl, rfl⟩ := zbc_inv h
    exact lv_icmp_ne hx hb hd ht (fun q => by simpa [q] using k) (fun q => by simpa [q] using k)
  · obtain ⟨ht, rfl, rfl⟩ := zbc_inv h
    exact lv_icmp_lt hx hb hd ht (fun q => by simpa only [q, decide_true, if_true] using k) (fun q => by simpa only [q, decide_false, Bool.false_eq_true, if_false] using k)
  · obtain ⟨ht, rfl, rfl⟩ := zbc_inv h
    exact lv_icmp_ge hx hb hd ht (fun q => by simpa only [q, decide_true, if_true] using k) (fun q => by simpa only [q, decide_false, Bool.false_eq_true, if_false] using k)
  · obtain ⟨ht, rfl, rfl⟩ := zbc_inv h
    exact lv_icmp_gt hx hb hd ht (fun q => by simpa only [q, decide_true, if_true] using k) (fun q => by simpa only [q, decide_false, Bool.false_eq_true, if_false] using k)
  · obtain ⟨ht, rfl, rfl⟩ := zbc_inv h
    exact lv_icmp_le hx hb hd ht (fun q => by simpa only [q, decide_true, if_true] using k) (fun q => by simpa only [q, decide_false, Bool.false_eq_true, if_false] using k)
  · obtain ⟨ht, rfl, rfl⟩ := zbc_inv h
    exact lv_ifnull hx hb hd k
  · obtain ⟨ht, rfl, rfl⟩ := zbc_inv h
    exact lv_ifnullN hx hb hd ht k
  · obtain ⟨ht, rfl, rfl⟩ := zbc_inv h
    exact lv_ifnonnull hx hb hd ht k
  · obtain ⟨ht, rfl, rfl⟩ := zbc_inv h
    exact lv_ifnonnullN hx hb hd k
  · obtain ⟨ht, rfl, rfl⟩ := zbc_inv h
    exact lv_goto hx hb hd ht k
  · split at h
    · rename_i hr
      obtain ⟨ht, rfl, rfl⟩ := zbc_inv h
      exact lv_tableOut hx hb hd hr ht k
    · rename_i hr
      split at h
      · rename_i off ho
        obtain ⟨ht, rfl, rfl⟩ := zbc_inv h
        exact lv_tableIn hx hb hd (fun q => hr (Or.inl q)) (fun q => hr (Or.inr q)) ho ht k
      · cases h
  · split at h
    · rename_i hp
      obtain ⟨ht, rfl, rfl⟩ := zbc_inv h
      exact lv_lookup hx hb hd hp rfl ht k
    · cases h
  · cases h
end ZSIM1
end
section
/-! the pure machine's steps are the machine's: the heap -/
def zAt (D : va_G) (dA : Nat → ClassId) (a : Nat) (q : Nat × Nat) (f : Nat → Value) (H : Heap) : Prop :=
  (q.1 < 100 ∧ ∃ r : vw_C, vwCl[q.1]? = some r ∧ t_OB a (D.1 q.1) r.2.2 (D.2 q.1) H f) ∨ (100 ≤ q.1 ∧ q.1 - 100 < zNT ∧ H[a]? = some (arrV (dA (q.1 - 100)) q.2 f))
def zSt (D : va_G) (dA : Nat → ClassId) (b0 : Nat) (w : zW) (H : Heap) : Prop := H.size = w.1.1 ∧ b0 ≤ w.1.1 ∧ ∀ a q, w.2.1 a = some q → b0 ≤ a ∧ zAt D dA a q (w.2.2 a) H
def zTys (dA : Nat → ClassId) : List (ClassId × FieldType) := (List.range zNT).map fun k => (dA k, zAK k)
theorem zTys_at (dA : Nat → ClassId) {k : Nat} (h : k < zNT) : (zTys dA)[k]? = some (dA k, zAK k) := by
  unfold zTys
  rw [List.getElem?_map, List.getElem?_range h]
  rfl
theorem zAt.lt {D : va_G} {dA : Nat → ClassId} {a : Nat} {q : Nat × Nat} {f : Nat → Value} {H : Heap} (h : zAt D dA a q f H) : a < H.size := by
  rcases h with ⟨-, r, -, cell, h1, -⟩ | ⟨-, -, h1⟩
  · exact (Array.getElem?_eq_some_iff.mp h1).1
  · exact (Array.getElem?_eq_some_iff.mp h1).1
theorem zAt.kept {D : va_G} {dA : Nat → ClassId} {a : Nat} {q : Nat × Nat} {f g : Nat → Value} {H H1 : Heap} (h : zAt D dA a q f H) (hq : H1[a]? = H[a]?) (hf : f = g) : zAt D dA a q g H1 := by
  subst hf
  rcases h with ⟨h0, r, h1, h2⟩ | ⟨h0, h1, h2⟩
  · exact Or.inl ⟨h0, r, h1, h2.kept hq⟩
  · exact Or.inr ⟨h0, h1, hq.trans h2⟩
theorem zSt.put {D : va_G} {dA : Nat → ClassId} {b0 : Nat} {w : zW} {H H1 : Heap} {a k : Nat} {q : Nat × Nat} {v : Value} (h : zSt D dA b0 w H) (ha : w.2.1 a = some q) (he : zAt D dA a q (updV (w.2.2 a) k v) H1) (z : H1.size = H.size) (oq : ∀ x, x ≠ a → H1[x]? = H[x]?) : zSt D dA b0 (zset w a k v) H1 := by
  refine ⟨z.trans h.1, h.2.1, fun x q' hx => ?_⟩
  have hx' : w.2.1 x = some q' := hx
  refine ⟨(h.2.2 x q' hx').1, ?_⟩
  by_cases hxa : x = a
  · subst hxa
    cases ha.symm.trans hx'
    have e : (zset w x k v).2.2 x = updV (w.2.2 x) k v := by
      funext j
      simp [zset, updV]
    rw [e]
    exact he
  · have e : (w.2.2 x) = (zset w a k v).2.2 x := by
      funext j
      simp [zset, hxa]
    exact (h.2.2 x q' hx').2.kept (oq x hxa) e
theorem zSt.push {D : va_G} {dA : Nat → ClassId} {b0 : Nat} {w : zW} {H H1 : Heap} {c n : Nat} {f : Nat → Value} (h : zSt D dA b0 w H) (he : zAt D dA w.1.1 (c, n) f H1) (z : H1.size = w.1.1 + 1) (oq : ∀ x, x < w.1.1 → H1[x]? = H[x]?) : zSt D dA b0 (zpush w c n f) H1 := by
  refine ⟨z, Nat.le_succ_of_le h.2.1, fun x q' hx => ?_⟩
  by_cases hxa : x = w.1.1
  · subst hxa
    have hx2 : (some (c, n) : Option (Nat × Nat)) = some q' := by
      have := hx
      simp only [zpush, if_true] at this
      exact this
    cases hx2
    refine ⟨h.2.1, ?_⟩
    have e : (zpush w c n f).2.2 w.1.1 = f := by
      funext j
      simp [zpush]
    rw [e]
    exact he
  · have hx' : w.2.1 x = some q' := by
      have := hx
      simp only [zpush, hxa, if_false] at this
      exact this
    obtain ⟨g1, g2⟩ := h.2.2 x q' hx'
    have e : (w.2.2 x) = (zpush w c n f).2.2 x := by
      funext j
      simp [zpush, hxa]
    exact ⟨g1, g2.kept (oq x (by have := g2.lt; rw [h.1] at this; exact this)) e⟩
/-- what holds of a state at a method's entry, beside its world: the nest's words, the classes, the script -/
def zCt (D : va_G) (dA : Nat → ClassId) (b0 : Nat) (S : zS) (U : State) : Prop :=
  (∀ w ∈ zNst, va_Nw w U) ∧ va_K D vwCl (zTys dA) U ∧ va_X S.1 S.2.1 S.2.2 U U.heap ∧ S.1 < b0 ∧ b0 ≤ U.heap.size
def zEn (D : va_G) (dA : Nat → ClassId) (b0 : Nat) (S : zS) (p : Program) (s : State) (m : MethodId) (args : Array Value) (meth : Method) (c : Code) (mi : Nat) : Prop :=
  p.tables.exec = Jvm.exec ∧ c.code = zCode mi ∧ c.maxLocals = zML mi ∧ meth.sig.returnType = zRT mi ∧ meth.locks = false ∧ s.vm.findClass (zON (zOC mi)) = some m.cls ∧ ((zY mi).name = "<init>" → meth.name = "<init>") ∧ (∀ w ∈ zTbl, w.before args s = true) ∧ zCt D dA b0 S s
section ZSIM2
variable {p : Program} {l : Launch} {e : Env} {R : Room} {s : State} {m : MethodId} {args : Array Value} {below : List Frame} {meth : Method} {c : Code} {H : Heap} {locs : List Loc} {cells slots : Nat} {Q : State → Prop}
variable {D : va_G} {dA : Nat → ClassId} {b0 : Nat} {S : zS} {mi pc len : Nat} {ls : Array Slot} {ins : Jvm.ClassFile.Instr}
theorem zs_get {w : zW} {idx ci k a n : Nat} {r : List Value} (E : zEn D dA b0 S p s m args meth c mi) (hw : zSt D dA b0 w H) (hd : decode (zCode mi) pc = .ok (.getfield idx, 3)) (hf : zFld (zOC mi) idx = some (ci, k)) (hs : w.2.1 a = some (ci, n))
    (kk : W p l e R s m args below meth c H locs cells slots Q (F0 m (pc + 3) ls (w.2.2 a k :: r))) : W p l e R s m args below meth c H locs cells slots Q (F0 m pc ls (.ref a :: r)) := by
  obtain ⟨hx, hb, -, -, -, hown, -, hts, hns, hK, -⟩ := E
  obtain ⟨C, T, N, hc, h100, hk, hC, hl⟩ := zFld_ok hf
  obtain ⟨hin, -⟩ := zCl_ok hc
  rcases (hw.2.2 a _ hs).2 with ⟨-, r', h1, cell, q1, q2, q3, q4⟩ | ⟨h0, -⟩
  · have hr : r' = (C, T, N) := Option.some.inj (h1.symm.trans hc)
    subst hr
    obtain ⟨hS, hfc, kC, hkC, hkind⟩ := hK.1 ci _ hc
    obtain ⟨cf, kf, fi, f, hi, hsl⟩ := hS k hk
    rw [hC] at hi
    have hst := (u_facts hfc hkC (by have := u_lays hts hin hk; rw [hC] at this; exact this) hi).1
    rcases hl with hl | ⟨host, hl⟩
    · exact W.getf hx hb hown (hts _ hl) hi hst q1 (by rw [q3]; exact fun h => by cases h) (v := w.2.2 a k) (by rw [hsl]; exact q4 k hk) rfl rfl hd kk
    · exact va_Wgetf hx hb hown (va_Nw.use rfl (hns _ hl)) hi hst q1 (by rw [q3]; exact fun h => by cases h) (v := w.2.2 a k) (by rw [hsl]; exact q4 k hk) rfl rfl hd kk
  · exact absurd h0 (Nat.not_le.mpr h100)
theorem zs_put {w : zW} {idx ci k a n : Nat} {v : Value} {r : List Value} (E : zEn D dA b0 S p s m args meth c mi) (hw : zSt D dA b0 w H) (hS0 : va_S (fun q => b0 ≤ q) s.heap H locs) (hd : decode (zCode mi) pc = .ok (.putfield idx, 3)) (hf : zFld (zOC mi) idx = some (ci, k)) (hs : w.2.1 a = some (ci, n)) (hv : zPf mi ci k v)
    (kk : ∀ (H1 : Heap) (locs1 : List Loc), zSt D dA b0 (zset w a k v) H1 → va_S (fun q => b0 ≤ q) s.heap H1 locs1 → W p l e R s m args below meth c H1 locs1 cells slots Q (F0 m (pc + 3) ls r)) : W p l e R s m args below meth c H locs cells slots Q (F0 m pc ls (v :: .ref a :: r)) := by
  obtain ⟨hx, hb, -, -, -, hown, hini, hts, hns, hK, -⟩ := E
  obtain ⟨C, T, N, hc, h100, hk, hC, hl⟩ := zFld_ok hf
  obtain ⟨hin, hty, hnm, hfi, -⟩ := zCl_ok hc
  have hap := va_apart (own := C) hts hin (zFT ci) hty hnm hK hc
  obtain ⟨ha0, hat⟩ := hw.2.2 a _ hs
  rcases hat with ⟨-, r', h1, cell, q1, q2, q3, q4⟩ | ⟨h0, -⟩
  · have hr : r' = (C, T, N) := Option.some.inj (h1.symm.trans hc)
    subst hr
    obtain ⟨hS, hfc, kC, hkC, hkind⟩ := hK.1 ci _ hc
    obtain ⟨cf, kf, fi, f, hi, hsl⟩ := hS k hk
    have hlay := hts _ (hin _ (u_in_lay hk))
    unfold u_lay at hlay
    have hst := (u_facts hfc hkC (u_lays hts hin hk) hi).1
    have fin : ∀ H' : Heap, H'[a]? = some (cell.setSlot f.slot v) → H'.size = H.size → (∀ q, q ≠ a → H'[q]? = H[q]?) → W p l e R s m args below meth c H' (locs ++ [⟨a, f.slot⟩]) cells slots Q (F0 m (pc + 3) ls r) := by
      intro H' e1 e2 e3
      rw [hsl] at e1 ⊢
      exact kk H' _ (hw.put hs (Or.inl ⟨h100, _, hc, ⟨_, e1, q2, q3, t_set q4 hap hk v⟩⟩) e2 e3) (hS0.put e2 e3 ha0)
    obtain ⟨hv1, hv2, hv3⟩ := hv
    rcases hv3 with hv3 | ⟨hv3, hoc, hnam⟩
    · rw [if_neg (by rw [hfi k hk, hv3]; decide)] at hlay
      have h6 := u_store hfc hkC hkind hlay hi (hty k hk) hv1 hv2
      rw [hC] at hi
      rcases hl with hl | ⟨host, hl⟩
      · exact W.putK hx hb (f := f) ⟨hown, hts _ hl, ⟨_, _, _, hi⟩, hst⟩ (by rw [q2]; exact h6) q1 q3 (by rw [hsl]; exact k2_hasslot (q4 k hk)) rfl rfl hd fin
      · exact va_WputK hx hb (f := f) hown (va_Nw.use rfl (hns _ hl)) hi hst (by rw [q2]; exact h6) q1 q3 (by rw [hsl]; exact k2_hasslot (q4 k hk)) rfl rfl hd fin
    · rw [if_pos (by rw [hfi k hk, hv3])] at hlay
      have hcf : m.cls = cf := by
        obtain ⟨_, _, c', _, _, _, -, -, hf', -, -, -, hown2, -⟩ := Cond.laysFinal_spec hlay
        have e1 : c' = cf := by have := hi.symm.trans hf'; simp at this; exact this.1.symm
        rw [hC, ← zON_ok hc, ← hoc] at hown2
        rw [← e1]; exact Option.some.inj (hown.symm.trans hown2)
      have h6 := u_fits hfc hkC hkind (Or.inr hlay) hi (hty k hk) hv1 hv2
      rw [hC] at hi
      rcases hl with hl | ⟨host, hl⟩
      · exact W.putFinK hx hb hown (hts _ hl) hi hst hcf (hini hnam) (by rw [q2]; exact h6) q1 q3 (by rw [hsl]; exact k2_hasslot (q4 k hk)) rfl rfl hd fin
      · have haH : a < H.size := (Array.getElem?_eq_some_iff.mp q1).1
        refine va_Wputf hx hb hown (va_Nw.use rfl (hns _ hl)) hi hst (Or.inr ⟨hcf, hini hnam⟩) q1 (by rw [q3]; exact fun h => by cases h) (by rw [hsl]; exact k2_hasslot (q4 k hk)) h6.1 (by rw [q3, q2]; exact h6.2) rfl rfl hd ?_
        exact fin _ (by simp [Array.getElem?_setIfInBounds, haH]) (by simp) (fun q hq => by simp [Array.getElem?_setIfInBounds, Ne.symm hq])
  · exact absurd h0 (Nat.not_le.mpr h100)
theorem zs_new {w : zW} {idx ci n0 k0 : Nat} {r : List Value} (E : zEn D dA b0 S p s m args meth c mi) (hw : zSt D dA b0 w H) (hS0 : va_S (fun q => b0 ≤ q) s.heap H locs) (hd : decode (zCode mi) pc = .ok (.new idx, 3)) (hf : zNew (zOC mi) idx = some ci) (hn : n0 ≤ w.1.1) (hk : k0 ≤ w.1.2) (hR : w.1.1 + 1 - n0 ≤ R.cells ∧ w.1.2 + zN ci - k0 ≤ R.slots)
    (kk : ∀ (H1 : Heap), zSt D dA b0 (zpush w ci (zN ci) (zBl ci)) H1 → va_S (fun q => b0 ≤ q) s.heap H1 locs → W p l e R s m args below meth c H1 locs (w.1.1 + 1 - n0) (w.1.2 + zN ci - k0) Q (F0 m (pc + 3) ls (.ref w.1.1 :: r))) : W p l e R s m args below meth c H locs (w.1.1 - n0) (w.1.2 - k0) Q (F0 m pc ls r) := by
  obtain ⟨hx, hb, -, -, -, hown, hini, hts, hns, hK, -⟩ := E
  obtain ⟨C, T, hc, h100, h1, h2, h3⟩ := zNew_ok hf
  obtain ⟨hin, hty, -⟩ := zCl_ok hc
  have hKn := hK.1 ci _ hc
  refine W.newcK hx hb hown (hts _ h1) (hts _ h2) (hts _ h3) rfl hd (by omega) (by omega) hKn.2.1 hw.1 fun H1 kC hkC e1 z1 o1 => ?_
  have e5 : w.1.1 - n0 + 1 = w.1.1 + 1 - n0 := by omega
  have e6 : w.1.2 - k0 + zN ci = w.1.2 + zN ci - k0 := by omega
  rw [e5, e6]
  refine kk H1 (hw.push (Or.inl ⟨h100, _, hc, ?_⟩) z1 o1) ⟨Nat.le_trans hS0.1 (by rw [z1, ← hw.1]; omega), fun q g1 g2 => ?_, hS0.2.2⟩
  · exact u_born (zFT ci) hts hin hKn hkC e1 hty
  · rw [o1 q (by rw [← hw.1]; exact Nat.lt_of_lt_of_le g1 hS0.1)]
    exact hS0.2.1 q g1 g2
theorem zs_newa {w : zW} {t : Jvm.ClassFile.ArrayType} {n : Int32} {k n0 k0 : Nat} {r : List Value} (E : zEn D dA b0 S p s m args meth c mi) (hw : zSt D dA b0 w H) (hS0 : va_S (fun q => b0 ≤ q) s.heap H locs) (hd : decode (zCode mi) pc = .ok (.newarray t, 2)) (hf : zNA t = some k) (hp : ¬ n < 0 ∧ n.toNatClampNeg ≤ 60000000) (hn : n0 ≤ w.1.1) (hk : k0 ≤ w.1.2) (hR : w.1.1 + 1 - n0 ≤ R.cells ∧ w.1.2 + n.toNatClampNeg - k0 ≤ R.slots)
    (kk : ∀ (H1 : Heap), zSt D dA b0 (zpush w (100 + k) n.toNatClampNeg (fun _ => defaultValue (zAK k))) H1 → va_S (fun q => b0 ≤ q) s.heap H1 locs → W p l e R s m args below meth c H1 locs (w.1.1 + 1 - n0) (w.1.2 + n.toNatClampNeg - k0) Q (F0 m (pc + 2) ls (.ref w.1.1 :: r))) : W p l e R s m args below meth c H locs (w.1.1 - n0) (w.1.2 - k0) Q (F0 m pc ls (.int n :: r)) := by
  obtain ⟨hx, hb, -, -, -, hown, hini, hts, hns, hK, -⟩ := E
  obtain ⟨hkN, hty, hwd, hcb, hnm⟩ := zNA_ok hf
  refine va_newaK hx hb (hts _ hwd) rfl hd rfl hp.1 rfl (by have := hp.2; have := Nat.mul_le_mul this hcb; omega) (by omega) (by omega) hw.1 fun H1 cA e1 z1 o1 hAr hNm => ?_
  have e5 : w.1.1 - n0 + 1 = w.1.1 + 1 - n0 := by omega
  have e6 : w.1.2 - k0 + n.toNatClampNeg = w.1.2 + n.toNatClampNeg - k0 := by omega
  rw [e5, e6]
  have hcA : cA = dA k := by
    have h9 := (hK.2 k _ (zTys_at dA hkN)).2
    rw [← hty] at h9
    have h8 : s.vm.findClass ("[" ++ (newarray.typeOf t).toString) = some (dA k) := by
      cases t <;> exact h9
    exact Option.some.inj (hNm.symm.trans h8)
  refine kk H1 (hw.push (Or.inr ⟨by omega, by rw [Nat.add_sub_cancel_left]; exact hkN, ?_⟩) z1 o1) ⟨Nat.le_trans hS0.1 (by rw [z1, ← hw.1]; omega), fun q g1 g2 => ?_, hS0.2.2⟩
  · rw [Nat.add_sub_cancel_left, ← hcA, ← hty]
    exact e1
  · rw [o1 q (by rw [← hw.1]; exact Nat.lt_of_lt_of_le g1 hS0.1)]
    exact hS0.2.1 q g1 g2
theorem zs_newq {w : zW} {idx k n0 k0 : Nat} {n : Int32} {r : List Value} (E : zEn D dA b0 S p s m args meth c mi) (hw : zSt D dA b0 w H) (hS0 : va_S (fun q => b0 ≤ q) s.heap H locs) (hd : decode (zCode mi) pc = .ok (.anewarray idx, 3)) (hf : zAN (zOC mi) idx = some k) (hp : ¬ n < 0 ∧ n.toNatClampNeg ≤ 60000000) (hn : n0 ≤ w.1.1) (hk : k0 ≤ w.1.2) (hR : w.1.1 + 1 - n0 ≤ R.cells ∧ w.1.2 + n.toNatClampNeg - k0 ≤ R.slots)
    (kk : ∀ (H1 : Heap), zSt D dA b0 (zpush w (100 + k) n.toNatClampNeg (fun _ => .null)) H1 → va_S (fun q => b0 ≤ q) s.heap H1 locs → W p l e R s m args below meth c H1 locs (w.1.1 + 1 - n0) (w.1.2 + n.toNatClampNeg - k0) Q (F0 m (pc + 3) ls (.ref w.1.1 :: r))) : W p l e R s m args below meth c H locs (w.1.1 - n0) (w.1.2 - k0) Q (F0 m pc ls (.int n :: r)) := by
  obtain ⟨hx, hb, -, -, -, hown, hini, hts, hns, hK, -⟩ := E
  obtain ⟨C, hkN, hty, hcl, hov⟩ := zAN_ok hf
  refine W.anew hx hb hown (hts _ hcl) (va_AO.use (hns _ hov)) rfl hd rfl hp.1 (by omega) (by omega) (by omega) fun cA kA comp f1 f2 f3 f4 => ?_
  have e5 : w.1.1 - n0 + 1 = w.1.1 + 1 - n0 := by omega
  have e6 : w.1.2 - k0 + n.toNatClampNeg = w.1.2 + n.toNatClampNeg - k0 := by omega
  rw [e5, e6, hw.1]
  generalize hH1 : H.push ({ cls := cA, slots := Array.replicate n.toNatClampNeg .null, vm := .none } : Cell) = H1
  have z1 : H1.size = w.1.1 + 1 := by rw [← hH1, Array.size_push, hw.1]
  have e1 : H1[w.1.1]? = some (arrV cA n.toNatClampNeg (fun _ => .null)) := by rw [← hH1, ← hw.1, Array.getElem?_push_size, ← arrV_new]
  have o1 : ∀ q : Nat, q < w.1.1 → H1[q]? = H[q]? := fun q hq => by rw [← hH1, Array.getElem?_push, if_neg (by rw [hw.1]; exact Nat.ne_of_lt hq)]
  have hcA : cA = dA k := by
    have h9 := (hK.2 k _ (zTys_at dA hkN)).2
    rw [hty] at h9
    obtain ⟨_, _, _, _, _, h8⟩ := h9
    exact Option.some.inj (f1.symm.trans h8)
  refine kk H1 (hw.push (Or.inr ⟨by omega, by rw [Nat.add_sub_cancel_left]; exact hkN, ?_⟩) z1 o1) ⟨Nat.le_trans hS0.1 (by rw [z1, ← hw.1]; omega), fun q g1 g2 => ?_, hS0.2.2⟩
  · rw [Nat.add_sub_cancel_left, ← hcA]
    exact e1
  · rw [o1 q (by rw [← hw.1]; exact Nat.lt_of_lt_of_le g1 hS0.1)]
    exact hS0.2.1 q g1 g2
theorem zs_arr {w : zW} {a ct n : Nat} (hw : zSt D dA b0 w H) (hs : w.2.1 a = some (ct, n)) (h100 : 100 ≤ ct) : ct - 100 < zNT ∧ H[a]? = some (arrV (dA (ct - 100)) n (w.2.2 a)) := by
  rcases (hw.2.2 a _ hs).2 with ⟨h0, -⟩ | ⟨-, h1, h2⟩
  · exact absurd h100 (Nat.not_le.mpr h0)
  · exact ⟨h1, h2⟩
theorem zs_ast {w : zW} {a ct n j : Nat} {v : Value} (hw : zSt D dA b0 w H) (hS0 : va_S (fun q => b0 ≤ q) s.heap H locs) (hs : w.2.1 a = some (ct, n)) (h100 : 100 ≤ ct) {H1 : Heap} (e1 : H1[a]? = some ((arrV (dA (ct - 100)) n (w.2.2 a)).setSlot j v)) (z : H1.size = H.size) (oq : ∀ q, q ≠ a → H1[q]? = H[q]?) : zSt D dA b0 (zset w a j v) H1 ∧ va_S (fun q => b0 ≤ q) s.heap H1 (locs ++ [⟨a, j⟩]) := by
  obtain ⟨hN, -⟩ := zs_arr hw hs h100
  rw [arrV_store] at e1
  exact ⟨hw.put hs (Or.inr ⟨h100, hN, e1⟩) z oq, hS0.put z oq (hw.2.2 a _ hs).1⟩
end ZSIM2
end
section
/-! the pure machine's steps are the machine's: every step of the heap; calls; whole runs -/
section ZSIM3
variable {p : Program} {l : Launch} {e : Env} {R : Room} {s : State} {m : MethodId} {args : Array Value} {below : List Frame} {meth : Method} {c : Code} {H : Heap} {locs : List Loc} {cells slots : Nat} {Q : State → Prop}
variable {D : va_G} {dA : Nat → ClassId} {b0 : Nat} {S : zS} {mi pc len : Nat} {ls : Array Slot} {ins : Jvm.ClassFile.Instr}
set_option maxHeartbeats 4000000 in
theorem zs_hp {w w' : zW} {st st' : List Value} {n0 k0 : Nat} (E : zEn D dA b0 S p s m args meth c mi) (hw : zSt D dA b0 w H) (hS0 : va_S (fun q => b0 ≤ q) s.heap H locs) (hd : decode (zCode mi) pc = .ok (ins, len)) (h : zhp S mi ins len st w = some (st', w')) (hn : n0 ≤ w.1.1) (hk : k0 ≤ w.1.2) (hR : w'.1.1 - n0 ≤ R.cells ∧ w'.1.2 - k0 ≤ R.slots)
    (kk : ∀ (H1 : Heap) (locs1 : List Loc), zSt D dA b0 w' H1 → va_S (fun q => b0 ≤ q) s.heap H1 locs1 → W p l e R s m args below meth c H1 locs1 (w'.1.1 - n0) (w'.1.2 - k0) Q (F0 m (pc + len) ls st')) : W p l e R s m args below meth c H locs (w.1.1 - n0) (w.1.2 - k0) Q (F0 m pc ls st) := by
  have E0 := E
  obtain ⟨hx, hb, -, -, -, hown, hini, hts, hns, hK, hX, hSb, hbs⟩ := E0
  have hA : ∀ {k : Nat}, k < zNT → ArrOfT s (dA k) (zAK k) := fun h => (hK.2 _ _ (zTys_at dA h)).1
  unfold zhp at h
  split at h
  -- getfield
  · split at h
    · rename_i hf hs
      split at h
      · rename_i hc; cases h; subst hc; exact zs_get E hw hd hf hs (kk H locs hw hS0)
      · cases h
    · cases h
  -- putfield
  · split at h
    · rename_i hf hs
      split at h
      · rename_i hc; cases h; obtain ⟨rfl, hc⟩ := hc; exact zs_put E hw hS0 hd hf hs hc kk
      · cases h
    · cases h
  -- new
  · split at h
    · rename_i hf; cases h; exact zs_new E hw hS0 hd hf hn hk hR (fun H1 h1 h2 => kk H1 locs h1 h2)
    · cases h
  -- newarray
  · split at h
    · rename_i hf
      split at h
      · rename_i hp; cases h; exact zs_newa E hw hS0 hd hf hp hn hk hR (fun H1 h1 h2 => kk H1 locs h1 h2)
      · cases h
    · cases h
  -- anewarray
  · split at h
    · rename_i hf
      split at h
      · rename_i hp; cases h; exact zs_newq E hw hS0 hd hf hp hn hk hR (fun H1 h1 h2 => kk H1 locs h1 h2)
      · cases h
    · cases h
  -- arraylength
  · split at h
    · rename_i hs
      split at h
      · rename_i hc; cases h
        obtain ⟨hN, hcell⟩ := zs_arr hw hs hc
        exact W.alen hx hb hcell (hA hN _ _) (by rw [arrV_size]) rfl rfl hd (kk H locs hw hS0)
      · cases h
    · split at h
      · rename_i hc; cases h; subst hc
        exact va_slen hx hb hX (Nat.lt_of_lt_of_le hSb hbs) (Nat.not_le.mpr hSb) hS0 hd (kk H locs hw hS0)
      · cases h
  -- iaload
  · split at h
    · rename_i hs
      split at h
      · rename_i hc; cases h
        obtain ⟨hN, hcell⟩ := zs_arr hw hs hc.1
        exact W.iald hx hb hcell (by have := hA hN; rw [hc.2.1] at this; exact this _ _) (fun q => by cases q) (by rw [arrV_size]; exact hc.2.2) (arrV_read _ _ (Nat.not_le.mp fun q => hc.2.2 (Or.inr q))) rfl rfl hd (kk H locs hw hS0)
      · cases h
    · split at h
      · rename_i hc; cases h; obtain ⟨rfl, hc⟩ := hc
        exact va_sld hx hb hX (Nat.lt_of_lt_of_le hSb hbs) (Nat.not_le.mpr hSb) hS0 hc hd (kk H locs hw hS0)
      · cases h
  -- laload
  · split at h
    · rename_i hs
      split at h
      · rename_i hc; cases h
        obtain ⟨hN, hcell⟩ := zs_arr hw hs hc.1
        exact W.lald hx hb hcell (by have := hA hN; rw [hc.2.1] at this; exact this _ _) (fun q => by cases q) (by rw [arrV_size]; exact hc.2.2) (arrV_read _ _ (Nat.not_le.mp fun q => hc.2.2 (Or.inr q))) rfl rfl hd (kk H locs hw hS0)
      · cases h
    · cases h
  -- baload
  · split at h
    · rename_i hs
      split at h
      · rename_i hc; cases h
        obtain ⟨hN, hcell⟩ := zs_arr hw hs hc.1
        exact W.zald hx hb hcell (by have := hA hN; rw [hc.2.1] at this; exact this _ _) (fun q => by cases q) (by rw [arrV_size]; exact hc.2.2) (arrV_read _ _ (Nat.not_le.mp fun q => hc.2.2 (Or.inr q))) rfl rfl hd (kk H locs hw hS0)
      · cases h
    · cases h
  -- aaload
  · split at h
    · rename_i hs
      split at h
      · rename_i hc; cases h
        obtain ⟨hN, hcell⟩ := zs_arr hw hs hc.1
        obtain ⟨cj, hj⟩ := Option.isSome_iff_exists.mp hc.2.1
        obtain ⟨r0, hr1, hr2⟩ := zAc_ok hj
        exact W.aald (ty := .object r0.1) hx hb hcell (by have := hA hN; rw [hr2] at this; exact this _ _) rfl (fun q => by cases q) (by rw [arrV_size]; exact hc.2.2) (arrV_read _ _ (Nat.not_le.mp fun q => hc.2.2 (Or.inr q))) rfl rfl hd (kk H locs hw hS0)
      · cases h
    · cases h
  -- iastore
  · split at h
    · rename_i hs
      split at h
      · rename_i hc; cases h
        obtain ⟨hN, hcell⟩ := zs_arr hw hs hc.1
        refine W.iast hx hb hcell (by have := hA hN; rw [hc.2.1] at this; exact this _ _) (fun q => by cases q) (by rw [arrV_size]; exact hc.2.2) rfl rfl hd fun H1 e1 z oq => ?_
        obtain ⟨g1, g2⟩ := zs_ast hw hS0 hs hc.1 e1 z oq
        exact kk H1 _ g1 g2
      · cases h
    · cases h
  -- lastore
  · split at h
    · rename_i hs
      split at h
      · rename_i hc; cases h
        obtain ⟨hN, hcell⟩ := zs_arr hw hs hc.1
        refine W.last hx hb hcell (by have := hA hN; rw [hc.2.1] at this; exact this _ _) (fun q => by cases q) (by rw [arrV_size]; exact hc.2.2) rfl rfl hd fun H1 e1 z oq => ?_
        obtain ⟨g1, g2⟩ := zs_ast hw hS0 hs hc.1 e1 z oq
        exact kk H1 _ g1 g2
      · cases h
    · cases h
  -- bastore
  · split at h
    · rename_i hs
      split at h
      · rename_i hc; cases h
        obtain ⟨hN, hcell⟩ := zs_arr hw hs hc.1
        refine W.zast hx hb hcell (by have := hA hN; rw [hc.2.1] at this; exact this _ _) (fun q => by cases q) (by rw [arrV_size]; exact hc.2.2.2) rfl rfl hd fun H1 e1 z oq => ?_
        rw [hc.2.2.1] at e1
        obtain ⟨g1, g2⟩ := zs_ast hw hS0 hs hc.1 e1 z oq
        exact kk H1 _ g1 g2
      · cases h
    · cases h
  -- aastore
  · split at h
    · rename_i hs hv
      split at h
      · rename_i hc; cases h
        obtain ⟨hN, hcell⟩ := zs_arr hw hs hc.1
        obtain ⟨r0, hr1, hr2⟩ := zAc_ok hc.2.1
        rcases (hw.2.2 _ _ hv).2 with ⟨-, r', h1, cellV, q1, q2, q3, -⟩ | ⟨h0, -⟩
        · have hcls := (hK.1 _ r0 hr1).2
          have hra := (hK.2 _ _ (zTys_at dA hN)).2
          rw [hr2] at hra
          obtain ⟨kA, comp, k1, k2, k3, -⟩ := hra
          have hcomp : comp = D.1 _ := Option.some.inj (k3.symm.trans hcls.1)
          subst hcomp
          obtain ⟨kC, hkC, -⟩ := hcls.2
          refine W.aast hx hb hcell (fun q h => by cases h) (fun h => by cases h) k1 k2 rfl hkC ⟨fun q => hc.2.2 (Or.inl q), by rw [arrV_size]; exact Nat.not_le.mp fun q => hc.2.2 (Or.inr q)⟩ q1 (fun q h => by rw [q3] at h; cases h) (by rw [q2]; exact hkC) (by rw [q2]; exact va_assign hcls) rfl rfl hd fun H1 e1 z oq => ?_
          obtain ⟨g1, g2⟩ := zs_ast hw hS0 hs hc.1 e1 z oq
          exact kk H1 _ g1 g2
        · exact absurd h0 (Nat.not_le.mpr (zAc_lt hc.2.1))
      · cases h
    · cases h
  -- ldc
  · split at h
    · rename_i hf; cases h; exact lv_ldc hx hb hown (hts _ (zLd_ok hf)) hd (kk H locs hw hS0)
    · cases h
  -- ldc2_w
  · split at h
    · rename_i hf; cases h; exact lv_ldc2 hx hb hown (hts _ (zLd2_ok hf)) hd (kk H locs hw hS0)
    · cases h
  · cases h
/-- a run's end -/
def zQ (D : va_G) (dA : Nat → ClassId) (b0 : Nat) (v : Option Value) (w : zW) : Array Value → State → Outcome → State → Prop := fun _ st o t => o = .returned v ∧ zSt D dA b0 w t.heap ∧ va_F (fun q => b0 ≤ q) st t
def zPc (D : va_G) (dA : Nat → ClassId) (b0 : Nat) (S : zS) (w : zW) (as : List Value) : Array Value → State → Prop := va_Pc as fun U => zSt D dA b0 w U.heap ∧ zCt D dA b0 S U
theorem zCt.moved {u U : State} (hW : u.WarmedH U.vm) (hh : U.heap[S.1]? = u.heap[S.1]?) (hz : b0 ≤ U.heap.size) (h : zCt D dA b0 S u) : zCt D dA b0 S U :=
  ⟨zNst_warm hW h.1, va_K.moved hW.alike h.2.1, (h.2.2.1.moved hW.alike).kept hh, h.2.2.2.1, hz⟩
theorem zPc.blind {w : zW} {as : List Value} : FrameBlind (zPc D dA b0 S w as) := by
  intro a U g mk ⟨h1, h2, h3, h4, h5, h6, h7⟩
  exact ⟨h1, h2, zNst_same (s := U) (U := U.calling g mk a) rfl h3, va_K.moved (u := U) (U := U.calling g mk a) (Vm.Alike.refl U.vm) h4, va_X.moved (u := U) (U := U.calling g mk a) (Vm.Alike.refl U.vm) h5, h6, h7⟩
theorem z_after {v : Option Value} {w' : zW} {as : Array Value} {st0 rest : List Value} {mc ms : Nat} (hr : va_Run p l e R s m args below meth c H locs cells slots mc ms (F0 m pc ls st0) rest (zQ D dA b0 v w' as) (fun q => b0 ≤ q)) (hS : va_S (fun q => b0 ≤ q) s.heap H locs)
    (kk : ∀ (H1 : Heap) (locs1 : List Loc), zSt D dA b0 w' H1 → va_S (fun q => b0 ≤ q) s.heap H1 locs1 → W p l e R s m args below meth c H1 locs1 (cells + mc) (slots + ms) Q (F0 m (pc + 3) ls (v.toList ++ rest))) : W p l e R s m args below meth c H locs cells slots Q (F0 m pc ls st0) := by
  intro T hT X
  obtain ⟨v1, st₀, t, T', L, h0, X', hL, e1, e2, ⟨hv, hz, hF⟩, st⟩ := hr T hT X
  cases hv
  obtain ⟨hF1, hF2⟩ := hF
  rw [h0] at hF1 hF2
  obtain ⟨t2, a1, b1⟩ := kk T'.heap (locs ++ L) (by rw [e1]; exact hz)
    ⟨Nat.le_trans hS.1 (by rw [e1]; exact hF1), fun q h1 h2 => by rw [e1, hF2 q (Nat.lt_of_lt_of_le h1 hS.1) h2]; exact hS.2.1 q h1 h2, fun q hq => by
      rcases List.mem_append.mp hq with h | h
      · exact hS.2.2 q h
      · exact hL q h⟩ T' rfl X'
  exact ⟨t2, st t2 a1, b1⟩
end ZSIM3
end
section
/-! the pure machine's runs are the machine's -/
theorem zhp_grow {S : zS} {mi len : Nat} {ins : Jvm.ClassFile.Instr} {st st' : List Value} {w w' : zW} (h : zhp S mi ins len st w = some (st', w')) : w.1.1 ≤ w'.1.1 ∧ w.1.2 ≤ w'.1.2 := by
  unfold zhp at h
  (repeat' split at h) <;> first
    | (cases h; exact ⟨Nat.le_refl _, Nat.le_refl _⟩)
    | (cases h; exact ⟨Nat.le_succ _, Nat.le_add_right _ _⟩)
    | cases h
theorem zgo_grow {S : zS} : ∀ (n : Nat) {d mi pc : Nat} {L : List (Nat × Value)} {st : List Value} {w wf : zW} {r : Option Value}, zgo S n d mi pc L st w = some (r, wf) → w.1.1 ≤ wf.1.1 ∧ w.1.2 ≤ wf.1.2 := by
  intro n
  induction n with
  | zero => intro d mi pc L st w wf r h; simp [zgo] at h
  | succ n ih =>
    intro d mi pc L st w wf r h
    rw [zgo] at h
    cases hd : decode (zCode mi) pc with
    | error x => rw [hd] at h; simp at h
    | ok q =>
      obtain ⟨ins, len⟩ := q
      rw [hd] at h
      dsimp only at h
      cases hz : zst S mi ins len pc L st w with
      | none => rw [hz] at h; simp at h
      | some q =>
        rw [hz] at h
        obtain ⟨pc', L', st', w'⟩ | ⟨mj, as, rest⟩ | v := q
        · have h1 := ih h
          have h2 : w.1.1 ≤ w'.1.1 ∧ w.1.2 ≤ w'.1.2 := by
            unfold zst at hz
            split at hz
            · obtain ⟨q, -, hq⟩ := Option.map_eq_some_iff.mp hz; cases hq; exact ⟨Nat.le_refl _, Nat.le_refl _⟩
            · obtain ⟨q, -, hq⟩ := Option.map_eq_some_iff.mp hz; cases hq; exact ⟨Nat.le_refl _, Nat.le_refl _⟩
            · obtain ⟨q, -, hq⟩ := Option.map_eq_some_iff.mp hz; cases hq; exact ⟨Nat.le_refl _, Nat.le_refl _⟩
            · obtain ⟨q, h9, hq⟩ := Option.map_eq_some_iff.mp hz; cases hq; exact zhp_grow h9
            · obtain ⟨q, -, hq⟩ := Option.map_eq_some_iff.mp hz; cases hq
            · obtain ⟨q, -, hq⟩ := Option.map_eq_some_iff.mp hz; cases hq
            · cases hz
          exact ⟨Nat.le_trans h2.1 h1.1, Nat.le_trans h2.2 h1.2⟩
        · dsimp only at h
          cases d with
          | zero => simp at h
          | succ d =>
            dsimp only at h
            cases hc : zgo S n d mj 0 (lv_args 0 as) [] w with
            | none => rw [hc] at h; simp at h
            | some q =>
              obtain ⟨v, w'⟩ := q
              rw [hc] at h
              have h1 := ih hc
              have h2 := ih h
              exact ⟨Nat.le_trans h1.1 h2.1, Nat.le_trans h1.2 h2.2⟩
        · cases h; exact ⟨Nat.le_refl _, Nat.le_refl _⟩
def zRm (d : Nat) (w wf : zW) : Room := { frames := d, cells := wf.1.1 - w.1.1, slots := wf.1.2 - w.1.2, locals := d * zKK }
/-- a method's words: its code, and all of ours -/
def zws (mj : Nat) : List Cond := Cond.code (zY mj) (zCode mj) (zML mj) (zRT mj) :: zTbl
/-- the simulation of runs of at most n steps -/
def zSim (l : Launch) (D : va_G) (dA : Nat → ClassId) (b0 : Nat) (S : zS) (n : Nat) : Prop :=
  ∀ {d mi pc : Nat} {L : List (Nat × Value)} {st : List Value} {w wf : zW} {r : Option Value}, zgo S n d mi pc L st w = some (r, wf) →
  ∀ {p : Program} {e : Env} {R : Room} {s : State} {m : MethodId} {args : Array Value} {below : List Frame} {meth : Method} {c : Code} {H : Heap} {locs : List Loc} {n0 k0 : Nat} {Q : State → Prop} {ls : Array Slot},
  zEn D dA b0 S p s m args meth c mi → zSt D dA b0 w H → va_S (fun q => b0 ≤ q) s.heap H locs → lv_has ls (zML mi) L → n0 ≤ w.1.1 → k0 ≤ w.1.2 → d ≤ R.frames → d * zKK ≤ R.locals → wf.1.1 - n0 ≤ R.cells → wf.1.2 - k0 ≤ R.slots →
  (∀ (pc' : Nat) (ls' : Array Slot) (ins : Jvm.ClassFile.Instr) (len : Nat) (st' : List Value) (H' : Heap) (locs' : List Loc), decode (zCode mi) pc' = .ok (ins, len) → zrt mi ins len st' = some r → zSt D dA b0 wf H' → va_S (fun q => b0 ≤ q) s.heap H' locs' →
    W p l e R s m args below meth c H' locs' (wf.1.1 - n0) (wf.1.2 - k0) Q (F0 m pc' ls' st')) →
  W p l e R s m args below meth c H locs (w.1.1 - n0) (w.1.2 - k0) Q (F0 m pc ls st)
/-- a contract out of a walk, by the method's own name (a class of which other methods are run by entries is served too) -/
theorem zMetW {l : Launch} {y : MethodName} {ws ws' : List Cond} {rm : Room} {Pc : Array Value → State → Prop} {Qc : Array Value → State → Outcome → State → Prop} {mc ms : Nat} {free : Addr → Prop} {cc : ByteArray} {maxL : Nat} {ret : Option FieldType}
    (hy : plainFor y = true) (hw : ws = Cond.code y cc maxL ret :: ws')
    (body : ∀ p e s m args below meth c s₁, BodyLoose p l y (headSpec ws rm) cc maxL ret e s m args below meth c s₁ → c.maxLocals = maxL → Pc args s →
      W p l e (headSpec ws rm).room s m args below meth c s.heap [] 0 0 (MQ below Qc args s mc ms free) (entryFrame m args maxL)) : Met l y ws rm Pc Qc mc ms free := by
  refine MetFree.of_bodySF (code := cc) (maxLocals := maxL) (ret := ret) hy ?_ ?_
  · intro args s m h hn
    obtain ⟨meth, c, h1, h2, h3, h4, h5, h6, -, -⟩ := Cond.code_spec hn (atoms_spec (ws := ws) h _ (by rw [hw]; exact List.mem_cons_self))
    exact ⟨meth, c, h1, h2, h3, h4, h5, h6⟩
  · intro p e s m args below meth c s₁ B hml hP _
    have hh0 : s₁.heap = s.heap := by rw [B.state]; rfl
    obtain ⟨t, a1, o, b1, b2, b3⟩ := body p e s m args below meth c s₁ B hml hP s₁ hh0 (Stand.of_body B)
    exact ⟨t, o, a1, b1, b2, ⟨b3.1, b3.2⟩⟩
theorem zMet {l : Launch} {D : va_G} {dA : Nat → ClassId} {b0 : Nat} {S : zS} {n : Nat} (hsim : zSim l D dA b0 S n) {d mj : Nat} {as : List Value} {w wf : zW} {v : Option Value} (h : zgo S n d mj 0 (lv_args 0 as) [] w = some (v, wf)) (hm : zMk mj) (hfit : (lg_sl as).length ≤ zML mj) :
    Met l (zY mj) (zws mj) (zRm d w wf) (zPc D dA b0 S w as) (zQ D dA b0 v wf) (wf.1.1 - w.1.1) (wf.1.2 - w.1.2) (fun q => b0 ≤ q) := by
  obtain ⟨hcode, hp, hy1, hy2, hini, hON, hKK⟩ := hm
  refine zMetW (cc := zCode mj) (maxL := zML mj) (ret := zRT mj) hp rfl ?_
  intro p e s m args below meth c s₁ B hml hv
  obtain ⟨rfl, hw, hct⟩ := hv
  have hts := atoms_spec (ws := zws mj) B.pre
  have hown : s.vm.findClass (zY mj).cls = some m.cls := findClass_of_methodNamed B.named
  have hlocks := B.notSynchronized
  have hx := B.exec
  have hb := B.bytes
  have hr := B.returns
  have E : zEn D dA b0 S p s m as.toArray meth c mj := ⟨hx, hb, hml, hr, hlocks, by rw [hON]; exact hown, fun h => (name_of_methodNamed B.named B.method).1.trans h, fun w hw => hts w (List.mem_cons_of_mem _ hw), hct⟩
  rw [lg_entry_eq]
  have hl := lv_entry as hfit
  have key := hsim h (R := zRm d w wf) (below := below) (e := e) (Q := MQ below (zQ D dA b0 v wf) as.toArray s (wf.1.1 - w.1.1) (wf.1.2 - w.1.2) (fun q => b0 ≤ q)) E hw (va_S.rf (A := fun q => b0 ≤ q)) hl (Nat.le_refl _) (Nat.le_refl _) (Nat.le_refl _) (Nat.le_refl _) (Nat.le_refl _) (Nat.le_refl _) ?_
  · rw [Nat.sub_self, Nat.sub_self] at key
    exact key
  · intro pc' ls' ins len st' H' locs' hd hz hst hS
    have hq : ∀ (o : Outcome), o = .returned v → ∀ t : State, t.heap = H' → s.WarmedH t.vm → zQ D dA b0 v wf as.toArray s o t := fun o ho t ht _ => ⟨ho, by rw [ht]; exact hst, hS.F ht⟩
    unfold zrt at hz
    split at hz
    · split at hz
      · rename_i ty hty
        split at hz
        · rename_i hn; cases hz
          exact W.zret hx hb (hr.trans hty) hn (hq _ rfl) hS.2.2 hd
        · cases hz
      · cases hz
    · split at hz
      · rename_i hty; cases hz
        exact W.lret hx hb (hr.trans hty) (hq _ rfl) hS.2.2 hd
      · cases hz
    · split at hz
      · rename_i hty; cases hz
        exact W.aret hx hb (hr.trans hty) (Or.inl ⟨_, rfl⟩) (Or.inr ⟨_, rfl⟩) (hq _ rfl) hS.2.2 hd
      · rename_i hty; cases hz
        exact W.aret hx hb (hr.trans hty) (Or.inr ⟨_, rfl⟩) (Or.inr ⟨_, rfl⟩) (hq _ rfl) hS.2.2 hd
      · cases hz
    · split at hz
      · rename_i hty; cases hz
        exact W.aret hx hb (hr.trans hty) (Or.inl ⟨_, rfl⟩) (Or.inl rfl) (hq _ rfl) hS.2.2 hd
      · rename_i hty; cases hz
        exact W.aret hx hb (hr.trans hty) (Or.inr ⟨_, rfl⟩) (Or.inl rfl) (hq _ rfl) hS.2.2 hd
      · cases hz
    · split at hz
      · rename_i hty; cases hz
        exact W.vret hx hb (hr.trans hty) (hq _ rfl) hS.2.2 hd
      · cases hz
    · cases hz
theorem zws_warm {s U : State} {args : Array Value} (hts : ∀ w ∈ zTbl, w.before args s = true) {mj : Nat} (hm : zMk mj) (hW : s.WarmedH U.vm) : ∀ w ∈ zws mj, ∀ a', w.before a' U = true := by
  intro w hw a'
  have hw2 : w ∈ zTbl := by
    rcases List.mem_cons.mp hw with rfl | h
    · exact hm.1
    · exact h
  exact word_at hW (zTbl_good w hw2) (hts w hw2)
theorem z_take {st rest : List Value} {n b : Nat} (h : st.drop n = .ref b :: rest) : st = ((st.take n).reverse).reverse ++ .ref b :: rest ∧ ((st.take n).reverse).length = n := by
  refine ⟨by rw [List.reverse_reverse, ← h]; exact (List.take_append_drop n st).symm, ?_⟩
  rw [List.length_reverse, List.length_take]
  have h1 : (st.drop n).length = rest.length + 1 := by rw [h]; rfl
  rw [List.length_drop] at h1
  omega
theorem z_take2 {st : List Value} {n : Nat} (h : n ≤ st.length) : st = ((st.take n).reverse).reverse ++ st.drop n ∧ ((st.take n).reverse).length = n := by
  refine ⟨by rw [List.reverse_reverse]; exact (List.take_append_drop n st).symm, ?_⟩
  rw [List.length_reverse, List.length_take]
  exact Nat.min_eq_left h
theorem zgo_obj {S : zS} {n d : Nat} {b : Nat} {w w' : zW} {v : Option Value} (h : zgo S n d 0 0 (lv_args 0 [.ref b]) [] w = some (v, w')) : v = none ∧ w' = w := by
  cases n with
  | zero => simp [zgo] at h
  | succ n =>
    have hd : decode (zCode 0) 0 = .ok (.return_, 1) := by decide +kernel
    rw [zgo, hd] at h
    have hz : zst S 0 .return_ 1 0 (lv_args 0 [.ref b]) [] w = some (.inr (.inr none)) := rfl
    dsimp only at h
    rw [hz] at h
    cases h
    exact ⟨rfl, rfl⟩
set_option maxHeartbeats 4000000 in
theorem z_sim (l : Launch) (D : va_G) (dA : Nat → ClassId) (b0 : Nat) (S : zS) : ∀ n, zSim l D dA b0 S n := by
  intro n
  induction n with
  | zero => intro d mi pc L st w wf r h; simp [zgo] at h
  | succ n ih =>
    intro d mi pc L st w wf r h p e R s m args below meth c H locs n0 k0 Q ls E hw hS0 hl hn hk hf hlo hce hsl hret
    have hx := E.1
    have hb := E.2.1
    rw [zgo] at h
    cases hd : decode (zCode mi) pc with
    | error x => rw [hd] at h; simp at h
    | ok q =>
      obtain ⟨ins, len⟩ := q
      rw [hd] at h
      dsimp only at h
      cases hz : zst S mi ins len pc L st w with
      | none => rw [hz] at h; simp at h
      | some q =>
        rw [hz] at h
        unfold zst at hz
        split at hz
        -- the stack
        · obtain ⟨q1, h9, hq⟩ := Option.map_eq_some_iff.mp hz; subst hq
          exact zs_alu hx hb hd h9 (ih h E hw hS0 hl hn hk hf hlo hce hsl hret)
        -- locals
        · obtain ⟨⟨L', st'⟩, h9, hq⟩ := Option.map_eq_some_iff.mp hz; subst hq
          exact zs_loc hx hb hd hl h9 (fun ls' hl' => ih h E hw hS0 hl' hn hk hf hlo hce hsl hret)
        -- branches
        · obtain ⟨⟨pc', st'⟩, h9, hq⟩ := Option.map_eq_some_iff.mp hz; subst hq
          exact zs_br hx hb hd h9 (ih h E hw hS0 hl hn hk hf hlo hce hsl hret)
        -- the heap
        · obtain ⟨⟨st', w'⟩, h9, hq⟩ := Option.map_eq_some_iff.mp hz; subst hq
          dsimp only at h
          have hg := zhp_grow h9
          have hg2 := zgo_grow n h
          exact zs_hp E hw hS0 hd h9 hn hk ⟨by omega, by omega⟩ (fun H1 locs1 h1 h2 => ih h E h1 h2 hl (by omega) (by omega) hf hlo hce hsl hret)
        -- calls
        · obtain ⟨⟨mj, as, rest⟩, h9, hq⟩ := Option.map_eq_some_iff.mp hz; subst hq
          dsimp only at h
          cases d with
          | zero => simp at h
          | succ d =>
            dsimp only at h
            cases hc : zgo S n d mj 0 (lv_args 0 as) [] w with
            | none => rw [hc] at h; simp at h
            | some q =>
              obtain ⟨v, w'⟩ := q
              rw [hc] at h
              have g1 := zgo_grow n hc
              have g2 := zgo_grow n h
              have hE := E
              obtain ⟨-, -, hml, -, -, hown, -, hts, hct⟩ := hE
              have hsz : ls.size = zML mi := hl.1
              have hmove : ∀ U : State, U.heap = H → s.WarmedH U.vm → zCt D dA b0 S U := fun U hU hW => hct.moved hW (by rw [hU]; exact hS0.2.1 S.1 (Nat.lt_of_lt_of_le hct.2.2.2.1 hct.2.2.2.2) (Nat.not_le.mpr hct.2.2.2.1)) (by rw [hU, hw.1]; exact hw.2.1)
              have hcs : w.1.1 - n0 + (w'.1.1 - w.1.1) ≤ R.cells ∧ w.1.2 - k0 + (w'.1.2 - w.1.2) ≤ R.slots := ⟨by omega, by omega⟩
              have e5 : w.1.1 - n0 + (w'.1.1 - w.1.1) = w'.1.1 - n0 := by omega
              have e6 : w.1.2 - k0 + (w'.1.2 - w.1.2) = w'.1.2 - k0 := by omega
              have next : ∀ (H1 : Heap) (locs1 : List Loc), zSt D dA b0 w' H1 → va_S (fun q => b0 ≤ q) s.heap H1 locs1 → W p l e R s m args below meth c H1 locs1 (w.1.1 - n0 + (w'.1.1 - w.1.1)) (w.1.2 - k0 + (w'.1.2 - w.1.2)) Q (F0 m (pc + 3) ls (v.toList ++ rest)) := by
                intro H1 locs1 h1 h2
                rw [e5, e6]
                exact ih h E h1 h2 hl (by omega) (by omega) hf hlo hce hsl hret
              have room : zMk mj → (zRm d w w').frames + 1 ≤ R.frames ∧ 8 + (zML mj + 11) + (zRm d w w').locals ≤ R.locals := by
                intro hm
                refine ⟨hf, ?_⟩
                have h1 := hm.2.2.2.2.2.2
                have h2 : (d + 1) * zKK = d * zKK + zKK := Nat.succ_mul d zKK
                show 8 + (zML mj + 11) + d * zKK ≤ R.locals
                omega
              have pre : ∀ {asv : List Value}, asv = as → ∀ U : State, U.heap = H → s.WarmedH U.vm → zPc D dA b0 S w as asv.toArray U := by
                intro asv hav U hU hW
                subst hav
                exact ⟨rfl, by rw [hU]; exact hw, hmove U hU hW⟩
              unfold zcl at h9
              split at h9
              -- invokevirtual
              · split at h9
                · rename_i hmt
                  split at h9
                  · rename_i b rest' hdr
                    split at h9
                    · rename_i hsh
                      split at h9
                      · rename_i hcond
                        cases h9
                        obtain ⟨hm, hpn, hlk, hkind⟩ := (zMt_ok hmt).2 (by decide)
                        rcases hkind with ⟨-, hin, hse, r0, hrc, hvc, hrn⟩ | ⟨h0, -⟩ | ⟨h0, -⟩
                        · have hM := zMet ih hc hm hcond.2.2
                          have hrcv : ∃ cellB : Cell, H[b]? = some cellB ∧ cellB.vm.isStatics = false ∧ s.vm.findClass (zY mj).cls = some cellB.cls := by
                            have hcj := Option.some.inj (hrc.symm.trans hcond.1)
                            rcases (hw.2.2 b _ hsh).2 with ⟨-, r', h1, cell, q1, q2, q3, -⟩ | ⟨h0, -⟩
                            · exact ⟨cell, q1, by rw [q3]; rfl, by rw [q2, ← hrn]; dsimp only; rw [← hcj]; exact (hct.2.1.1 _ r0 hvc).2.1⟩
                            · exact absurd h0 (by dsimp only; rw [← hcj]; exact Nat.not_le.mpr (zCl_lt hvc))
                          obtain ⟨hstk, hlen⟩ := z_take hdr
                          rcases hlk with hlk | ⟨host, hlk⟩
                          · exact z_after (va_runV ⟨hx, hb, hml, hown, hts⟩ hM ⟨⟨rfl, rfl, (room hm).1, (room hm).2, fun w hw a' U hW => zws_warm hts hm hW w hw a', List.mem_cons_self, hts _ hm.1, hts _ hm.2.2.2.2.1, ⟨hm.2.2.1, hm.2.2.2.1⟩, fun sig hsg => by rw [hsg] at hpn; exact (Option.some.inj hpn).symm, hts _ hlk⟩, hts _ hin, hts _ hse⟩ ⟨zPc.blind, hrcv, pre rfl⟩ rfl hlen hsz hstk (lv_room hcond.2.1) hd hcs) hS0 next
                          · exact z_after (va_runVN ⟨hx, hb, hml, hown, hts⟩ hM ⟨⟨⟨rfl, rfl, (room hm).1, (room hm).2, fun w hw a' U hW => zws_warm hts hm hW w hw a', List.mem_cons_self⟩, hts _ hm.1, hts _ hm.2.2.2.2.1, ⟨hm.2.2.1, hm.2.2.2.1⟩, fun sig hsg => by rw [hsg] at hpn; exact (Option.some.inj hpn).symm, va_Nw.use rfl (hct.1 _ hlk)⟩, hts _ hin, hts _ hse⟩ ⟨zPc.blind, hrcv, pre rfl⟩ rfl hlen hsz hstk (lv_room hcond.2.1) hd hcs) hS0 next
                        · exact absurd h0 (by decide)
                        · exact absurd h0 (by decide)
                      · cases h9
                    · cases h9
                  · cases h9
                · cases h9
              -- invokespecial
              · split at h9
                · rename_i hmt
                  split at h9
                  · rename_i b rest' hdr
                    split at h9
                    · rename_i hcond
                      cases h9
                      obtain ⟨hm, hpn, hlk, hkind⟩ := (zMt_ok hmt).2 (by decide)
                      rcases hkind with ⟨h0, -⟩ | ⟨-, hin, hnm, hrt⟩ | ⟨h0, -⟩
                      · exact absurd h0 (by decide)
                      · have hM := zMet ih hc hm hcond.2
                        obtain ⟨hstk, hlen⟩ := z_take hdr
                        have hcw : Cond.code (zY mj) (zCode mj) (zML mj) none ∈ zws mj := by rw [← hrt]; exact List.mem_cons_self
                        rcases hlk with hlk | ⟨host, hlk⟩
                        · exact z_after (va_runI ⟨hx, hb, hml, hown, hts⟩ hM ⟨⟨rfl, rfl, (room hm).1, (room hm).2, fun w hw a' U hW => zws_warm hts hm hW w hw a', hcw, by rw [← hrt]; exact hts _ hm.1, hts _ hm.2.2.2.2.1, ⟨hm.2.2.1, hm.2.2.2.1⟩, fun sig hsg => by rw [hsg] at hpn; exact (Option.some.inj hpn).symm, hts _ hlk⟩, hnm, hts _ hin⟩ ⟨zPc.blind, pre rfl⟩ rfl hlen hsz hstk (lv_room hcond.1) hd hcs) hS0 next
                        · exact z_after (va_runIN ⟨hx, hb, hml, hown, hts⟩ hM ⟨⟨⟨rfl, rfl, (room hm).1, (room hm).2, fun w hw a' U hW => zws_warm hts hm hW w hw a', hcw⟩, by rw [← hrt]; exact hts _ hm.1, hts _ hm.2.2.2.2.1, ⟨hm.2.2.1, hm.2.2.2.1⟩, fun sig hsg => by rw [hsg] at hpn; exact (Option.some.inj hpn).symm, va_Nw.use rfl (hct.1 _ hlk)⟩, hnm, hts _ hin⟩ ⟨zPc.blind, pre rfl⟩ rfl hlen hsz hstk (lv_room hcond.1) hd hcs) hS0 next
                      · exact absurd h0 (by decide)
                    · cases h9
                  · cases h9
                · rename_i hmt
                  split at h9
                  · rename_i b rest'
                    split at h9
                    · rename_i hcond
                      cases h9
                      obtain ⟨ho1, ho2, ho3⟩ := (zMt_ok hmt).1 rfl
                      · obtain ⟨rfl, rfl⟩ := zgo_obj hc
                        have h1 : 1 ≤ R.frames := by omega
                        have h2 : zcs rest + 12 ≤ R.locals := by
                          have h3 : (d + 1) * zKK = d * zKK + zKK := Nat.succ_mul d zKK
                          have h4 : 20 ≤ zKK := by decide
                          have h5 := hcond
                          omega
                        have nx := next H locs hw hS0
                        rw [Nat.sub_self, Nat.sub_self, Nat.add_zero, Nat.add_zero] at nx
                        exact W.objInit hx hb hown (hts _ ho1) (hts _ ho2) (hts _ ho3) rfl (by rw [hml]; exact hsz) rfl hd h1 (by simpa [JFrame.monitorRoom, zcs] using h2) nx
                    · cases h9
                  · cases h9
                · cases h9
              -- invokestatic
              · split at h9
                · rename_i hmt
                  split at h9
                  · rename_i hcond
                    cases h9
                    obtain ⟨hm, hpn, hlk, hkind⟩ := (zMt_ok hmt).2 (by decide)
                    rcases hkind with ⟨h0, -⟩ | ⟨h0, -⟩ | ⟨-, hin⟩
                    · exact absurd h0 (by decide)
                    · exact absurd h0 (by decide)
                    · have hM := zMet ih hc hm hcond.2.2
                      obtain ⟨hstk, hlen⟩ := z_take2 hcond.1
                      rcases hlk with hlk | ⟨host, hlk⟩
                      · exact z_after (va_runS ⟨hx, hb, hml, hown, hts⟩ hM ⟨⟨rfl, rfl, (room hm).1, (room hm).2, fun w hw a' U hW => zws_warm hts hm hW w hw a', List.mem_cons_self, hts _ hm.1, hts _ hm.2.2.2.2.1, ⟨hm.2.2.1, hm.2.2.2.1⟩, fun sig hsg => by rw [hsg] at hpn; exact (Option.some.inj hpn).symm, hts _ hlk⟩, hts _ hin⟩ ⟨zPc.blind, pre rfl⟩ rfl hlen hsz hstk (lv_room hcond.2.1) hd hcs) hS0 next
                      · exact z_after (va_runSN ⟨hx, hb, hml, hown, hts⟩ hM ⟨⟨⟨rfl, rfl, (room hm).1, (room hm).2, fun w hw a' U hW => zws_warm hts hm hW w hw a', List.mem_cons_self⟩, hts _ hm.1, hts _ hm.2.2.2.2.1, ⟨hm.2.2.1, hm.2.2.2.1⟩, fun sig hsg => by rw [hsg] at hpn; exact (Option.some.inj hpn).symm, va_Nw.use rfl (hct.1 _ hlk)⟩, hts _ hin, trivial⟩ ⟨zPc.blind, pre rfl⟩ rfl hlen hsz hstk (lv_room hcond.2.1) hd hcs) hS0 next
                  · cases h9
                · cases h9
              · cases h9
        -- returns
        · obtain ⟨q1, h9, hq⟩ := Option.map_eq_some_iff.mp hz; subst hq
          cases h
          exact hret pc ls ins len st H locs hd h9 hw hS0
        · cases hz
end
section
/-! THE CLAIM OUT OF ONE WALK OF THE LAW'S BODY. Your part is whole_start (and what it stands on); all else here is the same for every law, but numbers. -/
def R_law : String := "StepWalkLaw"
def lw_P (b : Addr) (xs : List Int32) (args : Array Value) (s : State) : Prop := args = #[.ref b] ∧ s.IntsAt b xs ∧ xs.length ≤ 2560 ∧ (Jvm.Cond.and given_1 narrow_1).before args s = true
def lw_Q (_ : Array Value) (s : State) (o : Outcome) (t : State) : Prop := o = .returned (some (.int 1)) ∧ Framed s o t [] 600000 7302249
def lw_Z (below : List Frame) (a : Array Value) (s : State) : State → Prop := fun t => ∃ o, t.status = .running ∧ Ended t below o ∧ lw_Q a s o t
/-- the law's own end, with 1 on the stack, nothing written that was there before, its room as the claim has it -/
theorem lw_ret {p : Program} {l : Launch} {e : Env} {s : State} {m : MethodId} {below : List Frame} {meth : Method} {c : Code} {b : Nat} (hx : p.tables.exec = Jvm.exec) (hb : c.code = code) (hr : meth.sig.returnType = ret) (hlocks : meth.locks = false) {pc : Nat} {H : Heap} {ls : Array Slot} (hdg : decode code pc = .ok (.ireturn, 1)) : W p l e room_1 s m #[Value.ref b] below meth c H [] 600000 7302249 (lw_Z below #[Value.ref b] s) (F0 m pc ls [.int 1]) := by
  intro T hT X
  obtain ⟨fs, hret, hrun, hended, hW, hframe⟩ := X.leave (v := some (.int 1)) (hlocks := hlocks) (fun h => by rw [hr] at h; cases h)
  have hmeth' : T.vm.method? m = some meth := X.method'
  refine ⟨T.setFrames fs, ?_, .returned (some (.int 1)), hrun, hended, rfl, ⟨_, rfl⟩, hW, hframe⟩
  jvm_step X.here [X.here.top, hx, hb, hdg, hmeth', hr, ret, narrow_b1]
  (try refine ⟨rfl, ?_⟩); (try refine ⟨rfl, ?_⟩)
  first | (intro acts; rw [hret _ acts rfl rfl rfl]) | rw [hret _ _ rfl rfl rfl]
  exact Steps.refl _
/-- what holds at the law's entry: the machine, the code, the tables' words (any of lw_tbl by 'hts w (by decide +kernel)'), the script of L ints xs at the cell b, what the Statement gives of the start (any of its parts by flat_of_before) -/
def lw_At (p : Program) (s : State) (m : MethodId) (meth : Method) (c : Code) (b L : Nat) (xs : Nat → Int32) : Prop :=
  p.tables.exec = Jvm.exec ∧ c.code = code ∧ meth.sig.returnType = ret ∧ c.maxLocals = 4 ∧ s.vm.findClass R_law = some m.cls ∧ (∀ w ∈ lw_tbl, w.before #[Value.ref b] s = true) ∧ va_X b L xs s s.heap ∧ b < s.heap.size ∧ meth.locks = false ∧ (Jvm.Cond.and given_1 narrow_1).before #[Value.ref b] s = true
set_option maxRecDepth 100000 in
theorem zIn_ok : vwCl.all (fun r => decide (Cond.instantiable r.1 r.2.2 ∈ tables_1)) = true := by decide +kernel
/-- the classes and arrays at the law's entry -/
theorem z_classes {s : State} {args : Array Value} (hts : ∀ w ∈ lw_tbl, w.before args s = true) : ∃ (D : va_G) (dA : Nat → ClassId), va_K D vwCl (zTys dA) s := by
  have htz : ∀ w ∈ zTbl, w.before args s = true := fun w hw => hts w (List.mem_filter.mp hw).1
  have h1 : ∀ ci : Nat, ∃ q : ClassId × (Nat → Nat), ∀ r : vw_C, vwCl[ci]? = some r → u_Kn s r.1 r.2.1 r.2.2 q.1 q.2 := by
    intro ci
    cases hc : vwCl[ci]? with
    | none => exact ⟨(0, fun _ => 0), fun r h => by cases h⟩
    | some r =>
      have h2 := List.all_eq_true.mp zIn_ok r (List.mem_of_getElem? hc)
      have h3 := hts _ (List.mem_append_right _ (of_decide_eq_true h2))
      obtain ⟨cC, iS, hk⟩ := u_known htz (zCl_ok hc).1 h3
      exact ⟨(cC, iS), fun r' h => by cases h; exact hk⟩
  obtain ⟨f, hf⟩ := Classical.axiomOfChoice h1
  have num : ∀ ty : FieldType, (∀ C, ty ≠ .object C) → Cond.arrayClass ty ∈ zTbl → ∃ cA : ClassId, ArrOfT s cA ty ∧ va_RA s cA ty := by
    intro ty hne hw
    obtain ⟨cA, kA, comp, g1, g2, g3⟩ := Cond.arrayClass_spec (htz _ hw)
    refine ⟨cA, fun n z => ⟨fun k h => (by cases h), kA, g2, comp, g3⟩, ?_⟩
    cases ty with
    | object C => exact absurd rfl (hne C)
    | _ => exact g1
  have obj : ∀ C : String, Cond.arrayOver (.object C) ∈ zNst → ∃ cA : ClassId, ArrOfT s cA (.object C) ∧ va_RA s cA (.object C) := by
    intro C hw
    obtain ⟨comp, cA, kA, g1, g2, g3, g4, g5⟩ := Cond.arrayOver_spec (hts _ (List.mem_append_right _ (List.mem_filter.mp hw).1))
    exact ⟨cA, fun n z => ⟨fun k h => (by cases h), kA, g3, comp, g4⟩, kA, comp, g3, g4, g1, g5⟩
  have h2 : ∀ k : Nat, ∃ cA : ClassId, k < zNT → ArrOfT s cA (zAK k) ∧ va_RA s cA (zAK k) := by
    intro k
    match k with
    | 0 => obtain ⟨cA, h⟩ := num .int (fun C h => by cases h) (zNA_ok (t := .int) (k := 0) rfl).2.2.1; exact ⟨cA, fun _ => h⟩
    | 1 => obtain ⟨cA, h⟩ := num .long (fun C h => by cases h) (zNA_ok (t := .long) (k := 1) rfl).2.2.1; exact ⟨cA, fun _ => h⟩
    | 2 => obtain ⟨cA, h⟩ := num .boolean (fun C h => by cases h) (zNA_ok (t := .boolean) (k := 2) rfl).2.2.1; exact ⟨cA, fun _ => h⟩
    | 3 => obtain ⟨cA, h⟩ := obj "StepWalk$Part" (z_n (i := 26) (by decide +kernel) rfl); exact ⟨cA, fun _ => h⟩
    | 4 => obtain ⟨cA, h⟩ := obj "StepWalk$Spot" (z_n (i := 99) (by decide +kernel) rfl); exact ⟨cA, fun _ => h⟩
    | k + 5 => exact ⟨0, fun h => absurd h (by unfold zNT; omega)⟩
  obtain ⟨dA, hdA⟩ := Classical.axiomOfChoice h2
  refine ⟨(fun c => (f c).1, fun c => (f c).2), dA, fun c q hq => hf c q hq, fun k q hk => ?_⟩
  have hl : k < zNT := by
    have := (List.getElem?_eq_some_iff.mp hk).1
    simpa [zTys] using this
  rw [zTys_at dA hl] at hk
  cases hk
  exact hdA k hl
/-- what is owed, of the pure machine -/
def zClaim : Prop := ∀ (b L b0 : Nat) (xs : Nat → Int32), L ≤ 2560 → b < b0 → zOk (b, L, xs) 1000 zLaw 0 [(0, .ref b)] [] ((b0, 0), (fun _ => none), fun _ _ => .null) (fun v w' => v = some (.int 1) ∧ w'.1.1 ≤ b0 + 600000 ∧ w'.1.2 ≤ 7302249)
set_option maxHeartbeats 4000000 in
theorem z_whole (hz : zClaim) {p : Program} {e : Env} {s : State} {m : MethodId} {below : List Frame} {meth : Method} {c : Code} (l : Launch) {b L : Nat} {xs : Nat → Int32} (hL : L ≤ 2560) (C0 : lw_At p s m meth c b L xs) : W p l e room_1 s m #[Value.ref b] below meth c s.heap [] 0 0 (lw_Z below #[Value.ref b] s) (entryFrame m ([Value.ref b] : List Value).toArray 4) := by
  obtain ⟨hx, hb, hr, hml, hown, hts, hX, hbl, hlocks, hgv⟩ := C0
  have htz : ∀ w ∈ zTbl, w.before #[Value.ref b] s = true := fun w hw => hts w (List.mem_filter.mp hw).1
  have hns : ∀ w ∈ zNst, va_Nw w s := by
    intro w hw
    obtain ⟨hw1, hw2⟩ := List.mem_filter.mp hw
    have h := hts w (List.mem_append_right _ hw1)
    rcases zNs_cases hw2 with ⟨a, i, x, t, rfl⟩ | ⟨C, rfl⟩
    · exact va_Nw.of rfl h
    · exact va_AO.of h
  obtain ⟨D, dA, hK⟩ := z_classes hts
  obtain ⟨n, v, wf, hg, hv, hc, hs⟩ := hz b L s.heap.size xs hL hbl
  subst hv
  rw [lg_entry_eq]
  have hl := lv_entry [Value.ref b] (n := 4) (Nat.le_of_ble_eq_true rfl)
  have E : zEn D dA s.heap.size (b, L, xs) p s m #[Value.ref b] meth c zLaw := ⟨hx, hb, hml, hr, hlocks, hown, fun h => absurd h (by decide), htz, hns, hK, hX, hbl, Nat.le_refl _⟩
  have hw : zSt D dA s.heap.size ((s.heap.size, 0), (fun _ => none), fun _ _ => .null) s.heap := ⟨rfl, Nat.le_refl _, fun a q h => by cases h⟩
  have key := z_sim l D dA s.heap.size (b, L, xs) n hg (R := room_1) (below := below) (e := e) (n0 := s.heap.size) (k0 := 0) (Q := lw_Z below #[Value.ref b] s) E hw (va_S.rf (A := fun q => s.heap.size ≤ q)) hl (Nat.le_refl _) (Nat.le_refl _) (by decide) (by decide) (by show wf.1.1 - s.heap.size ≤ 600000; omega) (by show wf.1.2 - 0 ≤ 7302249; omega) ?_
  · rw [Nat.sub_self, Nat.sub_self] at key
    exact key
  · intro pc' ls' ins len st' H' locs' hd hz hst hS
    unfold zrt at hz
    split at hz
    · split at hz
      · split at hz
        · cases hz
          refine va_forget (fun q hq => hS.2.2 q hq) ?_
          refine W.widen (k := 600000) (n := 7302249) (by omega) (by omega) ?_
          exact lw_ret hx hb hr hlocks hd
        · cases hz
      · cases hz
    · split at hz
      · cases hz
      · cases hz
    · split at hz
      · cases hz
      · cases hz
      · cases hz
    · split at hz
      · cases hz
      · cases hz
      · cases hz
    · split at hz
      · cases hz
      · cases hz
    · cases hz
end
section
/-! the rules by the decoded code: every step by 'rfl', calls with the rest of the caller as the callee's end -/
section ZI
variable {S : zS} {d mi pc len : Nat} {ins : Jvm.ClassFile.Instr} {L : List (Nat × Value)} {st : List Value} {w : zW} {Post : Option Value → zW → Prop}
theorem zi {pc' : Nat} {L' : List (Nat × Value)} {st' : List Value} {w' : zW} (hd : zI mi pc = some (ins, len)) (hz : zst S mi ins len pc L st w = some (.inl (pc', L', st', w'))) (k : zOk S d mi pc' L' st' w' Post) : zOk S d mi pc L st w Post := zk_next (zI_ok hd) hz k
/-- the operand stack -/
theorem zi_a {st' : List Value} (hd : zI mi pc = some (ins, len)) (hg : zgr ins = 0) (ha : zalu ins len st = some st') (k : zOk S d mi (pc + len) L st' w Post) : zOk S d mi pc L st w Post := zk_alu (zI_ok hd) hg ha k
/-- locals -/
theorem zi_l {L' : List (Nat × Value)} {st' : List Value} (hd : zI mi pc = some (ins, len)) (hg : zgr ins = 1) (ha : zloc (zML mi) ins len L st = some (L', st')) (k : zOk S d mi (pc + len) L' st' w Post) : zOk S d mi pc L st w Post := zk_loc (zI_ok hd) hg ha k
theorem zi_ri {v : Int32} (hd : zI mi pc = some (.ireturn, 1)) (hr : zRT mi = some .int) (k : Post (some (.int v)) w) : zOk S d mi pc L [.int v] w Post := zk_ret (zI_ok hd) rfl (by simp only [zrt, hr]; exact if_pos rfl) k
theorem zi_rz {v : Int32} (hd : zI mi pc = some (.ireturn, 1)) (hr : zRT mi = some .boolean) (hv : v = 0 ∨ v = 1) (k : Post (some (.int v)) w) : zOk S d mi pc L [.int v] w Post := zk_ret (zI_ok hd) rfl (by simp only [zrt, hr]; exact if_pos (by rcases hv with rfl | rfl <;> rfl)) k
theorem zi_rl {v : Int64} (hd : zI mi pc = some (.lreturn, 1)) (hr : zRT mi = some .long) (k : Post (some (.long v)) w) : zOk S d mi pc L [.long v] w Post := zk_ret (zI_ok hd) rfl (by simp only [zrt, hr]; exact if_pos trivial) k
theorem zi_ret {v : Option Value} (hd : zI mi pc = some (ins, len)) (hg : zgr ins = 5) (hz : zrt mi ins len st = some v) (k : Post v w) : zOk S d mi pc L st w Post := zk_ret (zI_ok hd) hg hz k
theorem zi_if {off : Int} {tgt : Nat} {r : List Value} {b : Bool} (hd : zI mi pc = some (ins, len)) (hg : zgr ins = 2) (ha : zbr ins len pc st = zbc pc off r b) (ht : (pc : Int) + off = (tgt : Int)) (kt : b = true → zOk S d mi tgt L r w Post) (kf : b = false → zOk S d mi (pc + 3) L r w Post) : zOk S d mi pc L st w Post := zk_if (zI_ok hd) hg ha ht kt kf
/-- a branch by a condition that is decided: c holds or not -/
theorem zi_ifd {off : Int} {tgt : Nat} {r : List Value} {c : Prop} {i : Decidable c} (hd : zI mi pc = some (ins, len)) (hg : zgr ins = 2) (ha : zbr ins len pc st = zbc pc off r (@decide c i)) (ht : (pc : Int) + off = (tgt : Int)) (kt : c → zOk S d mi tgt L r w Post) (kf : ¬ c → zOk S d mi (pc + 3) L r w Post) : zOk S d mi pc L st w Post :=
  zk_if (zI_ok hd) hg ha ht (fun h => kt (of_decide_eq_true h)) (fun h => kf (of_decide_eq_false h))
theorem zi_go {off : Int} {tgt : Nat} {r : List Value} (hd : zI mi pc = some (ins, len)) (hg : zgr ins = 2) (ha : zbr ins len pc st = zbc pc off r true) (ht : (pc : Int) + off = (tgt : Int)) (kt : zOk S d mi tgt L r w Post) : zOk S d mi pc L st w Post := zk_goto (zI_ok hd) hg ha ht kt
theorem zi_stay {off : Int} {tgt : Nat} {r : List Value} (hd : zI mi pc = some (ins, len)) (hg : zgr ins = 2) (ha : zbr ins len pc st = zbc pc off r false) (ht : (pc : Int) + off = (tgt : Int)) (kf : zOk S d mi (pc + 3) L r w Post) : zOk S d mi pc L st w Post := zk_stay (zI_ok hd) hg ha ht kf
theorem zi_get {idx a ci k N : Nat} {r : List Value} {v : Value} (hd : zI mi pc = some (.getfield idx, 3)) (hf : zFld (zOC mi) idx = some (ci, k)) (hs : w.2.1 a = some (ci, N)) (hv : w.2.2 a k = v) (kk : zOk S d mi (pc + 3) L (v :: r) w Post) : zOk S d mi pc L (.ref a :: r) w Post := zk_get (zI_ok hd) hf hs hv kk
theorem zi_put {idx a ci k N : Nat} {r : List Value} {v : Value} (hd : zI mi pc = some (.putfield idx, 3)) (hf : zFld (zOC mi) idx = some (ci, k)) (hs : w.2.1 a = some (ci, N)) (hp : zPf mi ci k v) (kk : zOk S d mi (pc + 3) L r (zset w a k v) Post) : zOk S d mi pc L (v :: .ref a :: r) w Post := zk_put (zI_ok hd) hf hs hp kk
theorem zi_new {idx ci : Nat} {r : List Value} (hd : zI mi pc = some (.new idx, 3)) (hf : zNew (zOC mi) idx = some ci) (kk : zOk S d mi (pc + 3) L (.ref w.1.1 :: r) (zpush w ci (zN ci) (zBl ci)) Post) : zOk S d mi pc L r w Post := zk_new (zI_ok hd) hf kk
theorem zi_newa {t : Jvm.ClassFile.ArrayType} {n : Int32} {k N : Nat} {r : List Value} (hd : zI mi pc = some (.newarray t, 2)) (hf : zNA t = some k) (hn : ¬ n < 0) (hN : n.toNatClampNeg = N) (hm : N ≤ 60000000) (kk : zOk S d mi (pc + 2) L (.ref w.1.1 :: r) (zpush w (100 + k) N (fun _ => defaultValue (zAK k))) Post) : zOk S d mi pc L (.int n :: r) w Post := zk_newa (zI_ok hd) hf hn hN hm kk
theorem zi_newq {idx k N : Nat} {n : Int32} {r : List Value} (hd : zI mi pc = some (.anewarray idx, 3)) (hf : zAN (zOC mi) idx = some k) (hn : ¬ n < 0) (hN : n.toNatClampNeg = N) (hm : N ≤ 60000000) (kk : zOk S d mi (pc + 3) L (.ref w.1.1 :: r) (zpush w (100 + k) N (fun _ => .null)) Post) : zOk S d mi pc L (.int n :: r) w Post := zk_newq (zI_ok hd) hf hn hN hm kk
theorem zi_c2 {idx : Nat} {x : Int64} {r : List Value} (hd : zI mi pc = some (.ldc2_w idx, 3)) (hf : zLd2 (zOC mi) idx = some x) (kk : zOk S d mi (pc + 3) L (.long x :: r) w Post) : zOk S d mi pc L r w Post := zk_hp (zI_ok hd) rfl (by simp only [zhp, hf]) kk
theorem zi_len {a c n : Nat} {r : List Value} (hd : zI mi pc = some (.arraylength, 1)) (hs : w.2.1 a = some (c, n)) (hc : 100 ≤ c) (kk : zOk S d mi (pc + 1) L (.int (Int32.ofNat n) :: r) w Post) : zOk S d mi pc L (.ref a :: r) w Post := zk_len (zI_ok hd) hs hc kk
theorem zi_lenS {b n : Nat} {xs : Nat → Int32} {r : List Value} (hd : zI mi pc = some (.arraylength, 1)) (hs : w.2.1 b = none) (kk : zOk (b, n, xs) d mi (pc + 1) L (.int (Int32.ofNat n) :: r) w Post) : zOk (b, n, xs) d mi pc L (.ref b :: r) w Post := zk_lenS (S := (b, n, xs)) (zI_ok hd) hs kk
theorem zi_ildS {b n : Nat} {xs : Nat → Int32} {i : Int32} {r : List Value} (hd : zI mi pc = some (.iaload, 1)) (hs : w.2.1 b = none) (hi : zix i n) (kk : zOk (b, n, xs) d mi (pc + 1) L (.int (xs i.toNatClampNeg) :: r) w Post) : zOk (b, n, xs) d mi pc L (.int i :: .ref b :: r) w Post := zk_ildS (S := (b, n, xs)) (zI_ok hd) hs hi kk
theorem zi_ild {a n : Nat} {i : Int32} {v : Value} {r : List Value} (hd : zI mi pc = some (.iaload, 1)) (hs : w.2.1 a = some (100, n)) (hi : zix i n) (hv : w.2.2 a i.toNatClampNeg = v) (kk : zOk S d mi (pc + 1) L (v :: r) w Post) : zOk S d mi pc L (.int i :: .ref a :: r) w Post := zk_ild (k := 0) (zI_ok hd) hs rfl hi hv kk
theorem zi_lld {a n : Nat} {i : Int32} {v : Value} {r : List Value} (hd : zI mi pc = some (.laload, 1)) (hs : w.2.1 a = some (101, n)) (hi : zix i n) (hv : w.2.2 a i.toNatClampNeg = v) (kk : zOk S d mi (pc + 1) L (v :: r) w Post) : zOk S d mi pc L (.int i :: .ref a :: r) w Post := zk_lld (k := 1) (zI_ok hd) hs rfl hi hv kk
theorem zi_zld {a n : Nat} {i : Int32} {v : Value} {r : List Value} (hd : zI mi pc = some (.baload, 1)) (hs : w.2.1 a = some (102, n)) (hi : zix i n) (hv : w.2.2 a i.toNatClampNeg = v) (kk : zOk S d mi (pc + 1) L (v :: r) w Post) : zOk S d mi pc L (.int i :: .ref a :: r) w Post := zk_zld (k := 2) (zI_ok hd) hs rfl hi hv kk
theorem zi_ald {a k n : Nat} {i : Int32} {v : Value} {r : List Value} (hd : zI mi pc = some (.aaload, 1)) (hs : w.2.1 a = some (100 + k, n)) (ht : (zAc k).isSome = true) (hi : zix i n) (hv : w.2.2 a i.toNatClampNeg = v) (kk : zOk S d mi (pc + 1) L (v :: r) w Post) : zOk S d mi pc L (.int i :: .ref a :: r) w Post := zk_ald (zI_ok hd) hs ht hi hv kk
theorem zi_ist {a n : Nat} {i x : Int32} {r : List Value} (hd : zI mi pc = some (.iastore, 1)) (hs : w.2.1 a = some (100, n)) (hi : zix i n) (kk : zOk S d mi (pc + 1) L r (zset w a i.toNatClampNeg (.int x)) Post) : zOk S d mi pc L (.int x :: .int i :: .ref a :: r) w Post := zk_ist (k := 0) (zI_ok hd) hs rfl hi kk
theorem zi_lst {a n : Nat} {i : Int32} {x : Int64} {r : List Value} (hd : zI mi pc = some (.lastore, 1)) (hs : w.2.1 a = some (101, n)) (hi : zix i n) (kk : zOk S d mi (pc + 1) L r (zset w a i.toNatClampNeg (.long x)) Post) : zOk S d mi pc L (.long x :: .int i :: .ref a :: r) w Post := zk_lst (k := 1) (zI_ok hd) hs rfl hi kk
theorem zi_zst {a n : Nat} {i x : Int32} {r : List Value} (hd : zI mi pc = some (.bastore, 1)) (hs : w.2.1 a = some (102, n)) (hx : narrow .boolean (.int x) = .int x) (hi : zix i n) (kk : zOk S d mi (pc + 1) L r (zset w a i.toNatClampNeg (.int x)) Post) : zOk S d mi pc L (.int x :: .int i :: .ref a :: r) w Post := zk_zst (k := 2) (zI_ok hd) hs rfl hx hi kk
theorem zi_ast {a b k n cj N : Nat} {i : Int32} {r : List Value} (hd : zI mi pc = some (.aastore, 1)) (hs : w.2.1 a = some (100 + k, n)) (hb : w.2.1 b = some (cj, N)) (ht : zAc k = some cj) (hi : zix i n) (kk : zOk S d mi (pc + 1) L r (zset w a i.toNatClampNeg (.ref b)) Post) : zOk S d mi pc L (.ref b :: .int i :: .ref a :: r) w Post := zk_ast (zI_ok hd) hs hb ht hi kk
theorem zi_call {mj : Nat} {as rest : List Value} (hd : zI mi pc = some (ins, len)) (hg : zgr ins = 4) (hz : zcl mi ins len st w = some (mj, as, rest)) (hc : zOk S d mj 0 (lv_args 0 as) [] w (fun v w' => zOk S (d + 1) mi (pc + 3) L (v.toList ++ rest) w' Post)) : zOk S (d + 1) mi pc L st w Post := zk_call (zI_ok hd) hg hz hc (fun _ _ h => h)
theorem zi_v {idx mj n b cj N : Nat} {rest : List Value} (hd : zI mi pc = some (.invokevirtual idx, 3)) (hm : zMt (zOC mi) idx = some (mj, n, 0)) (hs : st.drop n = .ref b :: rest) (hw : w.2.1 b = some (cj, N)) (hr : zRC mj = some cj) (hq : Nat.ble (zcs rest) 8 = true) (hf : Nat.ble (lg_sl (.ref b :: (st.take n).reverse)).length (zML mj) = true)
    (hc : zOk S d mj 0 (lv_args 0 (.ref b :: (st.take n).reverse)) [] w (fun v w' => zOk S (d + 1) mi (pc + 3) L (v.toList ++ rest) w' Post)) : zOk S (d + 1) mi pc L st w Post :=
  zi_call hd rfl (by simp only [zcl, hm, hs, hw]; rw [if_pos ⟨hr, Nat.le_of_ble_eq_true hq, Nat.le_of_ble_eq_true hf⟩]) hc
theorem zi_i {idx mj n b : Nat} {rest : List Value} (hd : zI mi pc = some (.invokespecial idx, 3)) (hm : zMt (zOC mi) idx = some (mj, n, 1)) (hs : st.drop n = .ref b :: rest) (hq : Nat.ble (zcs rest) 8 = true) (hf : Nat.ble (lg_sl (.ref b :: (st.take n).reverse)).length (zML mj) = true)
    (hc : zOk S d mj 0 (lv_args 0 (.ref b :: (st.take n).reverse)) [] w (fun v w' => zOk S (d + 1) mi (pc + 3) L (v.toList ++ rest) w' Post)) : zOk S (d + 1) mi pc L st w Post :=
  zi_call hd rfl (by simp only [zcl, hm, hs]; rw [if_pos ⟨Nat.le_of_ble_eq_true hq, Nat.le_of_ble_eq_true hf⟩]) hc
theorem zi_s {idx mj n : Nat} (hd : zI mi pc = some (.invokestatic idx, 3)) (hm : zMt (zOC mi) idx = some (mj, n, 2)) (hl : Nat.ble n st.length = true) (hq : Nat.ble (zcs (st.drop n)) 8 = true) (hf : Nat.ble (lg_sl (st.take n).reverse).length (zML mj) = true)
    (hc : zOk S d mj 0 (lv_args 0 (st.take n).reverse) [] w (fun v w' => zOk S (d + 1) mi (pc + 3) L (v.toList ++ st.drop n) w' Post)) : zOk S (d + 1) mi pc L st w Post :=
  zi_call hd rfl (by simp only [zcl, hm]; rw [if_pos ⟨Nat.le_of_ble_eq_true hl, Nat.le_of_ble_eq_true hq, Nat.le_of_ble_eq_true hf⟩]) hc
/-- Object's constructor -/
theorem zi_o {idx mj n b : Nat} {rest : List Value} (hd : zI mi pc = some (.invokespecial idx, 3)) (hm : zMt (zOC mi) idx = some (mj, n, 3)) (hs : st = .ref b :: rest) (hq : Nat.ble (zcs rest) 8 = true) (k : zOk S (d + 1) mi (pc + 3) L rest w Post) : zOk S (d + 1) mi pc L st w Post := by
  subst hs
  refine zi_call hd rfl (by simp only [zcl, hm]; rw [if_pos (Nat.le_of_ble_eq_true hq)]) ?_
  exact zi_ret (ins := .return_) (len := 1) rfl rfl rfl k
end ZI
end
section
/-! small methods that both sides use -/
section ZL
variable {S : zS} {d : Nat} {w : zW} {Post : Option Value → zW → Prop}
theorem zix_of {i : Int32} {n : Nat} (hn : n < 2 ^ 31) (h0 : ¬ i < 0) (h1 : ¬ Int32.ofNat n ≤ i) : zix i n := by
  rcases pk_ix i hn with h | h | ⟨j, hj, rfl⟩
  · exact absurd h h0
  · exact absurd h h1
  · exact vp_in_nI hj hn
theorem c_get {row n : Nat} {f : Nat → Int64} {k : Int32} (hs : w.2.1 row = some (101, n)) (hn : n < 2 ^ 31) (hf : ∀ i, i < n → w.2.2 row i = .long (f i)) (hP : Post (some (.long (if k < 0 ∨ nI n ≤ k then 0 else f k.toNatClampNeg))) w) : zOk S d 34 0 (lv_args 0 [.ref row, .int k]) [] w Post := by
  refine zi_l rfl rfl rfl ?_
  refine zi_ifd rfl rfl rfl (tgt := 16) (by decide) (fun h => ?_) (fun h => ?_)
  · rw [if_pos (Or.inl h)] at hP
    refine zi_a rfl rfl rfl ?_
    exact zi_rl rfl rfl hP
  · refine zi_l rfl rfl rfl ?_
    refine zi_l rfl rfl rfl ?_
    refine zi_len rfl hs (by decide) ?_
    refine zi_ifd rfl rfl rfl (tgt := 16) (by decide) (fun h2 => ?_) (fun h2 => ?_)
    · rw [if_pos (Or.inr (show nI n ≤ k from h2))] at hP
      refine zi_a rfl rfl rfl ?_
      exact zi_rl rfl rfl hP
    · rw [if_neg (fun q => q.elim h h2)] at hP
      have hi := zix_of hn h h2
      refine zi_l rfl rfl rfl ?_
      refine zi_l rfl rfl rfl ?_
      refine zi_lld rfl hs hi (hf _ (Nat.not_le.mp fun q => hi (Or.inr q))) ?_
      refine zi_go rfl rfl rfl (tgt := 17) (by decide) ?_
      exact zi_rl rfl rfl hP
theorem c_put {row n : Nat} {k : Int32} {v : Int64} (hs : w.2.1 row = some (101, n)) (hn : n < 2 ^ 31) (hP : Post (some (.int (if k < 0 ∨ nI n ≤ k then 0 else 1))) (if k < 0 ∨ nI n ≤ k then w else zset w row k.toNatClampNeg (.long v))) : zOk S d 21 0 (lv_args 0 [.ref row, .int k, .long v]) [] w Post := by
  refine zi_l rfl rfl rfl ?_
  refine zi_ifd rfl rfl rfl (tgt := 10) (by decide) (fun h => ?_) (fun h => ?_)
  · rw [if_pos (Or.inl h), if_pos (Or.inl h)] at hP
    refine zi_a rfl rfl rfl ?_
    exact zi_rz rfl rfl (Or.inl rfl) hP
  · refine zi_l rfl rfl rfl ?_
    refine zi_l rfl rfl rfl ?_
    refine zi_len rfl hs (by decide) ?_
    refine zi_ifd rfl rfl rfl (tgt := 12) (by decide) (fun h2 => ?_) (fun h2 => ?_)
    · have h3 : ¬ nI n ≤ k := Int32.not_le.mpr h2
      rw [if_neg (fun q => q.elim h h3), if_neg (fun q => q.elim h h3)] at hP
      have hi := zix_of hn h h3
      refine zi_l rfl rfl rfl ?_
      refine zi_l rfl rfl rfl ?_
      refine zi_l rfl rfl rfl ?_
      refine zi_lst rfl hs hi ?_
      refine zi_a rfl rfl rfl ?_
      exact zi_rz rfl rfl (Or.inr rfl) hP
    · have h3 : nI n ≤ k := Int32.not_lt.mp h2
      rw [if_pos (Or.inr h3), if_pos (Or.inr h3)] at hP
      refine zi_a rfl rfl rfl ?_
      exact zi_rz rfl rfl (Or.inl rfl) hP
theorem c_max {x y : Int32} (hP : Post (some (.int (if x < y then y else x))) w) : zOk S d 16 0 (lv_args 0 [.int x, .int y]) [] w Post := by
  refine zi_l rfl rfl rfl ?_
  refine zi_l rfl rfl rfl ?_
  refine zi_ifd rfl rfl rfl (tgt := 9) (by decide) (fun h => ?_) (fun h => ?_)
  · rw [if_pos h] at hP
    refine zi_l rfl rfl rfl ?_
    exact zi_ri rfl rfl hP
  · rw [if_neg h] at hP
    refine zi_l rfl rfl rfl ?_
    refine zi_go rfl rfl rfl (tgt := 10) (by decide) ?_
    exact zi_ri rfl rfl hP
/-- a Spot's stage is field 7 -/
theorem c_renew0 (hP : Post none w) : zOk S d 41 0 (lv_args 0 [.null]) [] w Post := by
  refine zi_l rfl rfl rfl ?_
  refine zi_go rfl rfl rfl (tgt := 9) (by decide) ?_
  exact zi_ret rfl rfl rfl hP
theorem c_renew {a N : Nat} (hs : w.2.1 a = some (3, N)) (hP : Post none (zset w a 7 (.int 0))) : zOk S d 41 0 (lv_args 0 [.ref a]) [] w Post := by
  refine zi_l rfl rfl rfl ?_
  refine zi_stay rfl rfl rfl (tgt := 9) (by decide) ?_
  refine zi_l rfl rfl rfl ?_
  refine zi_a rfl rfl rfl ?_
  refine zi_put rfl rfl hs ⟨rfl, rfl, Or.inl rfl⟩ ?_
  exact zi_ret rfl rfl rfl hP
/-- Math.floorDiv, for a divisor that is not 0 -/
def fdv (x y : Int64) : Int64 := if lg_cmp (x ^^^ y) 0 < 0 ∧ ¬ lg_cmp (x / y * y) x = 0 then x / y - 1 else x / y
theorem c_floorDiv {x y : Int64} (hy : ¬ y = 0) (hP : Post (some (.long (fdv x y))) w) : zOk S d 45 0 (lv_args 0 [.long x, .long y]) [] w Post := by
  unfold fdv at hP
  refine zi_l rfl rfl rfl ?_
  refine zi_l rfl rfl rfl ?_
  refine zi_a rfl rfl (if_neg hy) ?_
  refine zi_l rfl rfl rfl ?_
  refine zi_l rfl rfl rfl ?_
  refine zi_l rfl rfl rfl ?_
  refine zi_a rfl rfl rfl ?_
  refine zi_a rfl rfl rfl ?_
  refine zi_a rfl rfl rfl ?_
  refine zi_ifd rfl rfl rfl (tgt := 27) (by decide) (fun h => ?_) (fun h => ?_)
  · have h' : ¬ lg_cmp (x ^^^ y) 0 < 0 := Int32.not_lt.mpr h
    rw [if_neg (fun q => h' q.1)] at hP
    refine zi_l rfl rfl rfl ?_
    exact zi_rl rfl rfl hP
  · have h' : lg_cmp (x ^^^ y) 0 < 0 := Int32.not_le.mp h
    refine zi_l rfl rfl rfl ?_
    refine zi_l rfl rfl rfl ?_
    refine zi_a rfl rfl rfl ?_
    refine zi_l rfl rfl rfl ?_
    refine zi_a rfl rfl rfl ?_
    refine zi_ifd rfl rfl rfl (tgt := 27) (by decide) (fun h2 => ?_) (fun h2 => ?_)
    · rw [if_neg (fun q => q.2 h2)] at hP
      refine zi_l rfl rfl rfl ?_
      exact zi_rl rfl rfl hP
    · rw [if_pos ⟨h', h2⟩] at hP
      refine zi_l rfl rfl rfl ?_
      refine zi_a rfl rfl rfl ?_
      refine zi_a rfl rfl rfl ?_
      exact zi_rl rfl rfl hP
/-- Arrays.fill of a row of longs -/
def zfill (w : zW) (a : Nat) (v : Int64) : Nat → zW
  | 0 => w
  | n + 1 => zset (zfill w a v n) a n (.long v)
theorem zfill_sh (w : zW) (a : Nat) (v : Int64) (n : Nat) : (zfill w a v n).2.1 = w.2.1 := by
  induction n with
  | zero => rfl
  | succ n ih => exact ih
theorem c_fill {a n : Nat} {v : Int64} (hs : w.2.1 a = some (101, n)) (hn : n < 2 ^ 31) (hP : Post none (zfill w a v n)) : zOk S d 25 0 (lv_args 0 [.ref a, .long v]) [] w Post := by
  have loop : ∀ (m i : Nat), i + m = n → zOk S d 25 6 [(0, .ref a), (1, .long v), (3, .int (nI i)), (4, .int (nI n))] [] (zfill w a v i) Post := by
    intro m
    induction m with
    | zero =>
      intro i hi
      obtain rfl : i = n := hi
      refine zi_l rfl rfl rfl ?_
      refine zi_l rfl rfl rfl ?_
      refine zi_ifd rfl rfl rfl (tgt := 22) (by decide) (fun h => ?_) (fun h => ?_)
      · exact zi_ret rfl rfl rfl hP
      · exact absurd (Int32.le_refl _) h
    | succ m ih =>
      intro i hi
      refine zi_l rfl rfl rfl ?_
      refine zi_l rfl rfl rfl ?_
      refine zi_ifd rfl rfl rfl (tgt := 22) (by decide) (fun h => ?_) (fun h => ?_)
      · exact absurd h (nI_ge (by omega) hn)
      · refine zi_l rfl rfl rfl ?_
        refine zi_l rfl rfl rfl ?_
        refine zi_l rfl rfl rfl ?_
        refine zi_lst rfl (by rw [zfill_sh]; exact hs) (vp_in_nI (by omega) hn) ?_
        refine zi_l rfl rfl rfl ?_
        refine zi_go rfl rfl rfl (tgt := 6) (by decide) ?_
        have e := ih (i + 1) (by omega)
        rw [nI_clamp (by omega)]
        rw [← nI_1] at e
        exact e
  refine zi_a rfl rfl rfl ?_
  refine zi_l rfl rfl rfl ?_
  refine zi_l rfl rfl rfl ?_
  refine zi_len rfl hs (by decide) ?_
  refine zi_l rfl rfl rfl ?_
  exact loop n 0 (by omega)
end ZL
end
section
/-! switches; locals that are forgotten -/
section ZSW
variable {S : zS} {d mi pc len : Nat} {L : List (Nat × Value)} {r : List Value} {w : zW} {Post : Option Value → zW → Prop}
theorem zi_sd {dflt lo hi : Int} {offs : Array Int} {x : Int32} {tgt : Nat} (hd : zI mi pc = some (.tableswitch dflt lo hi offs, len)) (h : x.toInt < lo ∨ hi < x.toInt) (ht : (pc : Int) + dflt = (tgt : Int)) (k : zOk S d mi tgt L r w Post) : zOk S d mi pc L (.int x :: r) w Post :=
  zk_goto (off := dflt) (r := r) (zI_ok hd) rfl (by simp only [zbr]; rw [if_pos h]) ht k
theorem zi_si {dflt lo hi : Int} {offs : Array Int} {x : Int32} {off : Int} {tgt : Nat} (hd : zI mi pc = some (.tableswitch dflt lo hi offs, len)) (h : ¬ (x.toInt < lo ∨ hi < x.toInt)) (ho : offs[(x.toInt - lo).toNat]? = some off) (ht : (pc : Int) + off = (tgt : Int)) (k : zOk S d mi tgt L r w Post) : zOk S d mi pc L (.int x :: r) w Post :=
  zk_goto (off := off) (r := r) (zI_ok hd) rfl (by simp only [zbr]; rw [if_neg h, ho]) ht k
end ZSW
/-- no local stands twice -/
def zuq : List (Nat × Value) → Bool
  | [] => true
  | q :: t => t.all (fun r => !(r.1 == q.1)) && zuq t
theorem zlk_of {i : Nat} {v : Value} : ∀ {L : List (Nat × Value)}, zuq L = true → (i, v) ∈ L → zlk i L = some v := by
  intro L
  induction L with
  | nil => intro _ h; cases h
  | cons q t ih =>
    intro hu h
    simp only [zuq, Bool.and_eq_true, List.all_eq_true, Bool.not_eq_true', beq_eq_false_iff_ne] at hu
    unfold zlk
    rcases List.mem_cons.mp h with rfl | h
    · rw [if_pos rfl]
    · rw [if_neg (fun e => hu.1 _ h e.symm)]
      exact ih hu.2 h
theorem zins_of {i : Nat} {v : Value} {x : Nat × Value} : ∀ {L : List (Nat × Value)}, x = (i, v) ∨ x ∈ L → x ∈ zins i v L := by
  intro L
  induction L with
  | nil => intro h; rcases h with rfl | h; exact List.mem_cons_self; cases h
  | cons q t ih =>
    intro h
    unfold zins
    cases hb : Nat.ble i q.1 with
    | true => exact List.mem_cons.mpr h
    | false =>
      rcases h with h | h
      · exact List.mem_cons_of_mem _ (ih (Or.inl h))
      · rcases List.mem_cons.mp h with h | h
        · exact List.mem_cons.mpr (Or.inl h)
        · exact List.mem_cons_of_mem _ (ih (Or.inr h))
theorem zuq_ins {i : Nat} {v : Value} : ∀ {L : List (Nat × Value)}, zuq L = true → (∀ q ∈ L, q.1 ≠ i) → zuq (zins i v L) = true := by
  intro L
  induction L with
  | nil => intro _ _; rfl
  | cons q t ih =>
    intro hu hn
    have hu' := hu
    simp only [zuq, Bool.and_eq_true, List.all_eq_true, Bool.not_eq_true', beq_eq_false_iff_ne] at hu'
    unfold zins
    cases hb : Nat.ble i q.1 with
    | true =>
      show zuq ((i, v) :: q :: t) = true
      rw [zuq]
      simp only [Bool.and_eq_true, List.all_eq_true, Bool.not_eq_true', beq_eq_false_iff_ne]
      exact ⟨fun x hx => hn x hx, hu⟩
    | false =>
      show zuq (q :: zins i v t) = true
      rw [zuq]
      simp only [Bool.and_eq_true, List.all_eq_true, Bool.not_eq_true', beq_eq_false_iff_ne]
      refine ⟨fun x hx => ?_, ih hu'.2 (fun x hx => hn x (List.mem_cons_of_mem _ hx))⟩
      rcases List.mem_cons.mp (zins_mem hx) with rfl | hx
      · exact fun e => hn q List.mem_cons_self e.symm
      · exact hu'.1 x hx
theorem zuq_filter {p : Nat × Value → Bool} : ∀ {L : List (Nat × Value)}, zuq L = true → zuq (L.filter p) = true := by
  intro L
  induction L with
  | nil => exact fun h => h
  | cons q t ih =>
    intro hu
    simp only [zuq, Bool.and_eq_true, List.all_eq_true, Bool.not_eq_true', beq_eq_false_iff_ne] at hu
    rw [List.filter_cons]
    split
    · rw [zuq]
      simp only [Bool.and_eq_true, List.all_eq_true, Bool.not_eq_true', beq_eq_false_iff_ne]
      exact ⟨fun x hx => hu.1 x (List.mem_filter.mp hx).1, ih hu.2⟩
    · exact ih hu.2
theorem zs1_uq {i : Nat} {v : Value} {L : List (Nat × Value)} (h : zuq L = true) : zuq (zs1 i v L) = true := by
  refine zuq_ins (zuq_filter h) (fun q hq => ?_)
  have := (List.mem_filter.mp hq).2
  simp only [Bool.and_eq_true, Bool.not_eq_true', beq_eq_false_iff_ne] at this
  exact this.1
theorem zs2_uq {i : Nat} {v : Value} {L : List (Nat × Value)} (h : zuq L = true) : zuq (zs2 i v L) = true := by
  refine zuq_ins (zuq_filter h) (fun q hq => ?_)
  have := (List.mem_filter.mp hq).2
  simp only [Bool.and_eq_true, Bool.not_eq_true', beq_eq_false_iff_ne] at this
  exact this.1
theorem zs1_in {i : Nat} {v : Value} {L L' : List (Nat × Value)} (h : ∀ q ∈ L, q ∈ L') : ∀ q ∈ zs1 i v L, q ∈ zs1 i v L' := by
  intro q hq
  rcases List.mem_cons.mp (zins_mem hq) with rfl | hq
  · exact zins_of (Or.inl rfl)
  · exact zins_of (Or.inr (List.mem_filter.mpr ⟨h q (List.mem_filter.mp hq).1, (List.mem_filter.mp hq).2⟩))
theorem zs2_in {i : Nat} {v : Value} {L L' : List (Nat × Value)} (h : ∀ q ∈ L, q ∈ L') : ∀ q ∈ zs2 i v L, q ∈ zs2 i v L' := by
  intro q hq
  rcases List.mem_cons.mp (zins_mem hq) with rfl | hq
  · exact zins_of (Or.inl rfl)
  · exact zins_of (Or.inr (List.mem_filter.mpr ⟨h q (List.mem_filter.mp hq).1, (List.mem_filter.mp hq).2⟩))
set_option maxHeartbeats 4000000 in
theorem zloc_ext {nL len : Nat} {ins : Jvm.ClassFile.Instr} {L L' L1 : List (Nat × Value)} {st st1 : List Value} (h : zloc nL ins len L st = some (L1, st1)) (hs : ∀ q ∈ L, q ∈ L') (hu : zuq L' = true) : ∃ L1', zloc nL ins len L' st = some (L1', st1) ∧ (∀ q ∈ L1, q ∈ L1') ∧ zuq L1' = true := by
  have up : ∀ {i : Nat} {v : Value}, zlk i L = some v → zlk i L' = some v := fun h => zlk_of hu (hs _ (zlk_mem h))
  unfold zloc at h
  split at h
  · split at h
    · rename_i hz; cases h; exact ⟨L', by simp only [zloc, up hz], hs, hu⟩
    · cases h
  · split at h
    · rename_i hz; cases h; exact ⟨L', by simp only [zloc, up hz], hs, hu⟩
    · cases h
  · split at h
    · rename_i hz; cases h; exact ⟨L', by simp only [zloc, up hz], hs, hu⟩
    · cases h
  · split at h
    · rename_i hz; cases h; exact ⟨L', by simp only [zloc, up hz], hs, hu⟩
    · cases h
  · split at h
    · rename_i hz; cases h; exact ⟨L', by simp only [zloc, up hz], hs, hu⟩
    · rename_i hz; cases h; exact ⟨L', by simp only [zloc, up hz], hs, hu⟩
    · cases h
  · split at h
    · rename_i hz; cases h; exact ⟨L', by simp only [zloc, up hz], hs, hu⟩
    · rename_i hz; cases h; exact ⟨L', by simp only [zloc, up hz], hs, hu⟩
    · cases h
  · split at h
    · rename_i hn; cases h; exact ⟨_, by simp only [zloc]; rw [if_pos hn], zs1_in hs, zs1_uq hu⟩
    · cases h
  · split at h
    · rename_i hn; cases h; exact ⟨_, by simp only [zloc]; rw [if_pos hn], zs1_in hs, zs1_uq hu⟩
    · cases h
  · split at h
    · rename_i hn; cases h; exact ⟨_, by simp only [zloc]; rw [if_pos hn], zs2_in hs, zs2_uq hu⟩
    · cases h
  · split at h
    · rename_i hn; cases h; exact ⟨_, by simp only [zloc]; rw [if_pos hn], zs2_in hs, zs2_uq hu⟩
    · cases h
  · split at h
    · rename_i hn; cases h; exact ⟨_, by simp only [zloc]; rw [if_pos hn], zs1_in hs, zs1_uq hu⟩
    · cases h
  · split at h
    · rename_i hn; cases h; exact ⟨_, by simp only [zloc]; rw [if_pos hn], zs1_in hs, zs1_uq hu⟩
    · cases h
  · split at h
    · rename_i hn; cases h; exact ⟨_, by simp only [zloc]; rw [if_pos hn], zs1_in hs, zs1_uq hu⟩
    · cases h
  · split at h
    · rename_i hn; cases h; exact ⟨_, by simp only [zloc]; rw [if_pos hn], zs1_in hs, zs1_uq hu⟩
    · cases h
  · split at h
    · rename_i hz
      split at h
      · rename_i hn; cases h; exact ⟨_, by simp only [zloc, up hz]; rw [if_pos hn], zs1_in hs, zs1_uq hu⟩
      · cases h
    · cases h
  · cases h
theorem zgo_ext {S : zS} : ∀ (n : Nat) {d mi pc : Nat} {L L' : List (Nat × Value)} {st : List Value} {w : zW} {r : Option Value × zW}, zgo S n d mi pc L st w = some r → (∀ q ∈ L, q ∈ L') → zuq L' = true → zgo S n d mi pc L' st w = some r := by
  intro n
  induction n with
  | zero => intro d mi pc L L' st w r h; simp [zgo] at h
  | succ n ih =>
    intro d mi pc L L' st w r h hs hu
    rw [zgo] at h ⊢
    cases hd : decode (zCode mi) pc with
    | error x => rw [hd] at h; simp at h
    | ok q =>
      obtain ⟨ins, len⟩ := q
      rw [hd] at h
      dsimp only at h ⊢
      cases hz : zst S mi ins len pc L st w with
      | none => rw [hz] at h; simp at h
      | some q =>
        rw [hz] at h
        have hz0 := hz
        unfold zst at hz
        split at hz
        · rename_i hg
          obtain ⟨q1, h9, hq⟩ := Option.map_eq_some_iff.mp hz; subst hq
          have e : zst S mi ins len pc L' st w = some (.inl (pc + len, L', q1, w)) := by simp only [zst, hg, h9, Option.map_some]
          rw [e]
          exact ih h hs hu
        · rename_i hg
          obtain ⟨⟨L1, st1⟩, h9, hq⟩ := Option.map_eq_some_iff.mp hz; subst hq
          obtain ⟨L1', g1, g2, g3⟩ := zloc_ext h9 hs hu
          have e : zst S mi ins len pc L' st w = some (.inl (pc + len, L1', st1, w)) := by simp only [zst, hg, g1, Option.map_some]
          rw [e]
          exact ih h g2 g3
        · rename_i hg
          obtain ⟨⟨pc1, st1⟩, h9, hq⟩ := Option.map_eq_some_iff.mp hz; subst hq
          have e : zst S mi ins len pc L' st w = some (.inl (pc1, L', st1, w)) := by simp only [zst, hg, h9, Option.map_some]
          rw [e]
          exact ih h hs hu
        · rename_i hg
          obtain ⟨⟨st1, w1⟩, h9, hq⟩ := Option.map_eq_some_iff.mp hz; subst hq
          have e : zst S mi ins len pc L' st w = some (.inl (pc + len, L', st1, w1)) := by simp only [zst, hg, h9, Option.map_some]
          rw [e]
          exact ih h hs hu
        · rename_i hg
          obtain ⟨⟨mj, as, rest⟩, h9, hq⟩ := Option.map_eq_some_iff.mp hz; subst hq
          have e : zst S mi ins len pc L' st w = some (.inr (.inl (mj, as, rest))) := by simp only [zst, hg, h9, Option.map_some]
          rw [e]
          dsimp only at h ⊢
          cases d with
          | zero => simp at h
          | succ d =>
            dsimp only at h ⊢
            cases hc : zgo S n d mj 0 (lv_args 0 as) [] w with
            | none => rw [hc] at h; simp at h
            | some q =>
              obtain ⟨v, w'⟩ := q
              rw [hc] at h
              exact ih h hs hu
        · rename_i hg
          obtain ⟨v, h9, hq⟩ := Option.map_eq_some_iff.mp hz; subst hq
          have e : zst S mi ins len pc L' st w = some (.inr (.inr v)) := by simp only [zst, hg, h9, Option.map_some]
          rw [e]
          exact h
        · cases hz
theorem zk_sub {S : zS} {d mi pc : Nat} {L L' : List (Nat × Value)} {st : List Value} {w : zW} {Post : Option Value → zW → Prop} (ks : List Nat) (hl : lv_pick L' ks = L) (hu : zuq L' = true) (k : zOk S d mi pc L st w Post) : zOk S d mi pc L' st w Post := by
  obtain ⟨n, v, wf, h1, h2⟩ := k
  refine ⟨n, v, wf, zgo_ext n h1 (fun q hq => ?_) hu, h2⟩
  rw [← hl] at hq
  obtain ⟨k, -, hk⟩ := List.mem_filterMap.mp hq
  exact List.mem_of_getElem? hk
theorem z_nb {x : Int32} (h : x = 0 ∨ x = 1) : narrow .boolean (.int x) = .int x := by rcases h with rfl | rfl <;> rfl
theorem z_fb {x : Int32} (h : x = 0 ∨ x = 1) : fits .boolean (.int x) = true := by rcases h with rfl | rfl <;> rfl
end
section
/-! THE REFERENCE's STATE: field f, element j (a field that is no array: element 0); ints and booleans, longs -/
abbrev mS : Type := (Nat → Nat → Int32) × (Nat → Nat → Int64)
def mu1 (μ : mS) (f j : Nat) (x : Int32) : mS := (fun a b => if a = f ∧ b = j then x else μ.1 a b, μ.2)
def mu2 (μ : mS) (f j : Nat) (x : Int64) : mS := (μ.1, fun a b => if a = f ∧ b = j then x else μ.2 a b)
/-- a new state, under a name -/
def mPut {α : Type} (x : mS) (k : mS → α) : α := k x
theorem mPut_eq {α : Type} (x : mS) (k : mS → α) : mPut x k = k x := rfl
/-- where a field's row lies behind the object (0: it is no row), its kind, its length -/
def mA (f : Nat) : Nat := match f with
  | 1 => 1 | 2 => 2 | 3 => 3 | 4 => 4 | 5 => 5 | 6 => 6 | 7 => 7 | 8 => 8 | 10 => 9 | 11 => 10 | 12 => 11 | 13 => 12 | 14 => 13 | 15 => 14 | 16 => 15 | 17 => 16 | 18 => 17 | 19 => 18 | 20 => 19 | 21 => 20 | 22 => 21 | 23 => 22 | 31 => 23 | 32 => 24 | 33 => 25 | 35 => 26 | 37 => 27 | _ => 0
def mK (f : Nat) : Nat := match f with
  | 1 => 100 | 2 => 100 | 3 => 100 | 4 => 100 | 5 => 101 | 6 => 100 | 7 => 100 | 8 => 102 | 10 => 100 | 11 => 100 | 12 => 100 | 13 => 102 | 14 => 100 | 15 => 101 | 16 => 101 | 17 => 101 | 18 => 101 | 19 => 101 | 20 => 101 | 21 => 101 | 22 => 101 | 23 => 102 | 31 => 100 | 32 => 100 | 33 => 100 | 35 => 100 | 37 => 100 | 26 => 1 | _ => 0
def mN (f : Nat) : Nat := match f with
  | 10 => 500 | 11 => 500 | 12 => 500 | 13 => 500 | 14 => 500 | 15 => 500 | 16 => 500 | 17 => 500 | 18 => 500 | 19 => 16 | 20 => 16 | 21 => 16 | 22 => 16 | 23 => 16 | _ => 200
/-- what field f holds at j -/
def mV (μ : mS) (f j : Nat) : Value := cond (mK f == 101 || mK f == 1) (.long (μ.2 f j)) (.int (μ.1 f j))
/-- the fields that are rows -/
def mRows : List Nat := [1, 2, 3, 4, 5, 6, 7, 8, 10, 11, 12, 13, 14, 15, 16, 17, 18, 19, 20, 21, 22, 23, 31, 32, 33, 35, 37]
def mRep (m0 : Nat) (μ : mS) (w : zW) : Prop :=
  w.2.1 m0 = some (7, 38) ∧ (∀ f, mA f = 0 → w.2.2 m0 f = mV μ f 0) ∧ (∀ f, f ∈ mRows → w.2.2 m0 f = .ref (m0 + mA f) ∧ w.2.1 (m0 + mA f) = some (mK f, mN f)) ∧ ∀ f j, f ∈ mRows → j < mN f → w.2.2 (m0 + mA f) j = mV μ f j
/-- the world is w0 but for the reference's cells, and they hold μ -/
def mW (m0 : Nat) (w0 : zW) (μ : mS) (w : zW) : Prop := mRep m0 μ w ∧ w.1 = w0.1 ∧ ∀ a, (a < m0 ∨ m0 + 28 ≤ a) → w.2.1 a = w0.2.1 a ∧ w.2.2 a = w0.2.2 a
theorem mA_lt : ∀ f ∈ mRows, 0 < mA f ∧ mA f < 28 := by decide
theorem mA_inj : ∀ f ∈ mRows, ∀ g ∈ mRows, mA f = mA g → f = g := by decide
theorem mV_1 {μ : mS} {f g j k : Nat} {x : Int32} (h : ¬ (f = g ∧ j = k)) : mV (mu1 μ g k x) f j = mV μ f j := by
  simp [mV, mu1, h]
theorem mV_2 {μ : mS} {f g j k : Nat} {x : Int64} (h : ¬ (f = g ∧ j = k)) : mV (mu2 μ g k x) f j = mV μ f j := by
  simp [mV, mu2, h]
theorem mV_1s {μ : mS} {f j : Nat} {x : Int32} (hk : (mK f == 101 || mK f == 1) = false) : mV (mu1 μ f j x) f j = .int x := by
  simp [mV, mu1, hk]
theorem mV_2s {μ : mS} {f j : Nat} {x : Int64} (hk : (mK f == 101 || mK f == 1) = true) : mV (mu2 μ f j x) f j = .long x := by
  simp [mV, mu2, hk]
theorem zset_ne {w : zW} {a k b j : Nat} {v : Value} (h : ¬ (b = a ∧ j = k)) : (zset w a k v).2.2 b j = w.2.2 b j := if_neg h
theorem zset_eq {w : zW} {a k : Nat} {v : Value} : (zset w a k v).2.2 a k = v := if_pos ⟨rfl, rfl⟩
theorem zset_off {w : zW} {a k b : Nat} {v : Value} (h : b ≠ a) : (zset w a k v).2.2 b = w.2.2 b := by
  funext j
  exact if_neg (fun q => h q.1)
theorem mW.put {m0 : Nat} {w0 : zW} {μ μ' : mS} {w : zW} {f : Nat} {v : Value} (h : mW m0 w0 μ w) (hf : mA f = 0) (hv : mV μ' f 0 = v) (ho : ∀ g j, ¬ (g = f ∧ j = 0) → mV μ' g j = mV μ g j) : mW m0 w0 μ' (zset w m0 f v) := by
  obtain ⟨⟨h1, h2, h3, h4⟩, h5, h6⟩ := h
  have hfr : f ∉ mRows := fun q => by have := (mA_lt f q).1; omega
  refine ⟨⟨h1, fun g hg => ?_, fun g hg => ⟨?_, (h3 g hg).2⟩, fun g j hg hj => ?_⟩, h5, fun a ha => ⟨(h6 a ha).1, ?_⟩⟩
  · by_cases hgf : g = f
    · subst hgf; rw [zset_eq, hv]
    · rw [zset_ne (fun q => hgf q.2), ho g 0 (fun q => hgf q.1)]; exact h2 g hg
  · rw [zset_ne (fun q => hfr (by rw [← q.2]; exact hg))]; exact (h3 g hg).1
  · rw [zset_ne (fun q => by have := (mA_lt g hg).1; omega), ho g j (fun q => hfr (by rw [← q.1]; exact hg))]; exact h4 g j hg hj
  · rw [zset_off (by rintro rfl; rcases ha with h | h <;> omega)]; exact (h6 a ha).2
theorem mW.row {m0 : Nat} {w0 : zW} {μ μ' : mS} {w : zW} {f i : Nat} {v : Value} (h : mW m0 w0 μ w) (hf : f ∈ mRows) (hv : mV μ' f i = v) (ho : ∀ g j, ¬ (g = f ∧ j = i) → mV μ' g j = mV μ g j) : mW m0 w0 μ' (zset w (m0 + mA f) i v) := by
  obtain ⟨⟨h1, h2, h3, h4⟩, h5, h6⟩ := h
  have hl := mA_lt f hf
  refine ⟨⟨h1, fun g hg => ?_, fun g hg => ⟨?_, (h3 g hg).2⟩, fun g j hg hj => ?_⟩, h5, fun a ha => ⟨(h6 a ha).1, ?_⟩⟩
  · rw [zset_ne (fun q => by omega), ho g 0 (fun q => by rw [q.1] at hg; omega)]; exact h2 g hg
  · rw [zset_ne (fun q => by omega)]; exact (h3 g hg).1
  · by_cases hgf : g = f
    · subst hgf
      by_cases hj' : j = i
      · subst hj'; rw [zset_eq, hv]
      · rw [zset_ne (fun q => hj' q.2), ho g j (fun q => hj' q.2)]; exact h4 g j hg hj
    · rw [zset_ne (fun q => hgf (mA_inj g hg f hf (by omega))), ho g j (fun q => hgf q.1)]; exact h4 g j hg hj
  · rw [zset_off (by rintro rfl; rcases ha with h | h <;> omega)]; exact (h6 a ha).2
section ZM
variable {S : zS} {d mi pc : Nat} {L : List (Nat × Value)} {r : List Value} {w w0 : zW} {Post : Option Value → zW → Prop} {m0 : Nat} {μ : mS}
/-- a field that is an int or boolean; a long; a row -/
theorem zm_g {idx f : Nat} (h : mW m0 w0 μ w) (hd : zI mi pc = some (.getfield idx, 3)) (hf : zFld (zOC mi) idx = some (7, f)) (hk : mA f = 0) (hq : (mK f == 101 || mK f == 1) = false) (kk : zOk S d mi (pc + 3) L (.int (μ.1 f 0) :: r) w Post) : zOk S d mi pc L (.ref m0 :: r) w Post :=
  zi_get hd hf h.1.1 (by rw [h.1.2.1 f hk]; unfold mV; rw [hq]; rfl) kk
theorem zm_gl {idx f : Nat} (h : mW m0 w0 μ w) (hd : zI mi pc = some (.getfield idx, 3)) (hf : zFld (zOC mi) idx = some (7, f)) (hk : mA f = 0) (hq : (mK f == 101 || mK f == 1) = true) (kk : zOk S d mi (pc + 3) L (.long (μ.2 f 0) :: r) w Post) : zOk S d mi pc L (.ref m0 :: r) w Post :=
  zi_get hd hf h.1.1 (by rw [h.1.2.1 f hk]; unfold mV; rw [hq]; rfl) kk
theorem zm_ga {idx f : Nat} (h : mW m0 w0 μ w) (hd : zI mi pc = some (.getfield idx, 3)) (hf : zFld (zOC mi) idx = some (7, f)) (hk : f ∈ mRows) (kk : zOk S d mi (pc + 3) L (.ref (m0 + mA f) :: r) w Post) : zOk S d mi pc L (.ref m0 :: r) w Post :=
  zi_get hd hf h.1.1 (h.1.2.2.1 f hk).1 kk
theorem zm_v (h : mW m0 w0 μ w) {f j : Nat} (hf : f ∈ mRows) (hj : j < mN f) : w.2.2 (m0 + mA f) j = mV μ f j := h.1.2.2.2 f j hf hj
theorem zm_ld {f : Nat} {i : Int32} (h : mW m0 w0 μ w) (hd : zI mi pc = some (.iaload, 1)) (hk : f ∈ mRows) (hq : mK f = 100) (hi : zix i (mN f)) (kk : zOk S d mi (pc + 1) L (.int (μ.1 f i.toNatClampNeg) :: r) w Post) : zOk S d mi pc L (.int i :: .ref (m0 + mA f) :: r) w Post :=
  zi_ild hd (by rw [(h.1.2.2.1 f hk).2, hq]) hi (by rw [zm_v h hk (Nat.not_le.mp fun q => hi (Or.inr q))]; unfold mV; rw [hq]; rfl) kk
theorem zm_ll {f : Nat} {i : Int32} (h : mW m0 w0 μ w) (hd : zI mi pc = some (.laload, 1)) (hk : f ∈ mRows) (hq : mK f = 101) (hi : zix i (mN f)) (kk : zOk S d mi (pc + 1) L (.long (μ.2 f i.toNatClampNeg) :: r) w Post) : zOk S d mi pc L (.int i :: .ref (m0 + mA f) :: r) w Post :=
  zi_lld hd (by rw [(h.1.2.2.1 f hk).2, hq]) hi (by rw [zm_v h hk (Nat.not_le.mp fun q => hi (Or.inr q))]; unfold mV; rw [hq]; rfl) kk
theorem zm_lz {f : Nat} {i : Int32} (h : mW m0 w0 μ w) (hd : zI mi pc = some (.baload, 1)) (hk : f ∈ mRows) (hq : mK f = 102) (hi : zix i (mN f)) (kk : zOk S d mi (pc + 1) L (.int (μ.1 f i.toNatClampNeg) :: r) w Post) : zOk S d mi pc L (.int i :: .ref (m0 + mA f) :: r) w Post :=
  zi_zld hd (by rw [(h.1.2.2.1 f hk).2, hq]) hi (by rw [zm_v h hk (Nat.not_le.mp fun q => hi (Or.inr q))]; unfold mV; rw [hq]; rfl) kk
theorem zm_p {idx f : Nat} {x : Int32} (h : mW m0 w0 μ w) (hd : zI mi pc = some (.putfield idx, 3)) (hf : zFld (zOC mi) idx = some (7, f)) (hk : mA f = 0) (hq : (mK f == 101 || mK f == 1) = false) (hp : zPf mi 7 f (.int x)) (kk : ∀ w', mW m0 w0 (mu1 μ f 0 x) w' → zOk S d mi (pc + 3) L r w' Post) : zOk S d mi pc L (.int x :: .ref m0 :: r) w Post :=
  zi_put hd hf h.1.1 hp (kk _ (h.put hk (mV_1s hq) (fun g j hn => mV_1 hn)))
theorem zm_pl {idx f : Nat} {x : Int64} (h : mW m0 w0 μ w) (hd : zI mi pc = some (.putfield idx, 3)) (hf : zFld (zOC mi) idx = some (7, f)) (hk : mA f = 0) (hq : (mK f == 101 || mK f == 1) = true) (hp : zPf mi 7 f (.long x)) (kk : ∀ w', mW m0 w0 (mu2 μ f 0 x) w' → zOk S d mi (pc + 3) L r w' Post) : zOk S d mi pc L (.long x :: .ref m0 :: r) w Post :=
  zi_put hd hf h.1.1 hp (kk _ (h.put hk (mV_2s hq) (fun g j hn => mV_2 hn)))
theorem zm_st {f : Nat} {i x : Int32} (h : mW m0 w0 μ w) (hd : zI mi pc = some (.iastore, 1)) (hk : f ∈ mRows) (hq : mK f = 100) (hi : zix i (mN f)) (kk : ∀ w', mW m0 w0 (mu1 μ f i.toNatClampNeg x) w' → zOk S d mi (pc + 1) L r w' Post) : zOk S d mi pc L (.int x :: .int i :: .ref (m0 + mA f) :: r) w Post :=
  zi_ist hd (by rw [(h.1.2.2.1 f hk).2, hq]) hi (kk _ (h.row hk (mV_1s (by rw [hq]; rfl)) (fun g j hn => mV_1 hn)))
theorem zm_sl {f : Nat} {i : Int32} {x : Int64} (h : mW m0 w0 μ w) (hd : zI mi pc = some (.lastore, 1)) (hk : f ∈ mRows) (hq : mK f = 101) (hi : zix i (mN f)) (kk : ∀ w', mW m0 w0 (mu2 μ f i.toNatClampNeg x) w' → zOk S d mi (pc + 1) L r w' Post) : zOk S d mi pc L (.long x :: .int i :: .ref (m0 + mA f) :: r) w Post :=
  zi_lst hd (by rw [(h.1.2.2.1 f hk).2, hq]) hi (kk _ (h.row hk (mV_2s (by rw [hq]; rfl)) (fun g j hn => mV_2 hn)))
theorem zm_sz {f : Nat} {i x : Int32} (h : mW m0 w0 μ w) (hd : zI mi pc = some (.bastore, 1)) (hk : f ∈ mRows) (hq : mK f = 102) (hx : narrow .boolean (.int x) = .int x) (hi : zix i (mN f)) (kk : ∀ w', mW m0 w0 (mu1 μ f i.toNatClampNeg x) w' → zOk S d mi (pc + 1) L r w' Post) : zOk S d mi pc L (.int x :: .int i :: .ref (m0 + mA f) :: r) w Post :=
  zi_zst hd (by rw [(h.1.2.2.1 f hk).2, hq]) hx hi (kk _ (h.row hk (mV_1s (by rw [hq]; rfl)) (fun g j hn => mV_1 hn)))
/-- a call of the reference's own method -/
theorem zm_c {idx mj n : Nat} {rest st : List Value} (h : mW m0 w0 μ w) (hd : zI mi pc = some (.invokevirtual idx, 3)) (hm : zMt (zOC mi) idx = some (mj, n, 0)) (hs : st.drop n = .ref m0 :: rest) (hr : zRC mj = some 7) (hq : Nat.ble (zcs rest) 8 = true) (hf : Nat.ble (lg_sl (.ref m0 :: (st.take n).reverse)).length (zML mj) = true)
    (hc : zOk S d mj 0 (lv_args 0 (.ref m0 :: (st.take n).reverse)) [] w (fun v w' => zOk S (d + 1) mi (pc + 3) L (v.toList ++ rest) w' Post)) : zOk S (d + 1) mi pc L st w Post := zi_v hd hm hs h.1.1 hr hq hf hc
end ZM
end
section
/-! the reference decompiled: functions over its state, and that its code runs them (by wip/whole/gen4.py) -/
def mF_isPlace (a1 : Int32) (μ : mS) : Option (Int32 × mS) :=
  if a1 < 0 then (some ((0 : Int32), μ)) else (if (16 : Int32) ≤ a1 then (some ((0 : Int32), μ)) else (some ((1 : Int32), μ)))
theorem mT_isPlace {S : zS} {q : Nat} {w w0 : zW} {Post : Option Value → zW → Prop} {m0 : Nat} {μ μ2 : mS} {v : Int32} {a1 : Int32} (hq : 0 ≤ q) (hk : mF_isPlace a1 μ = some (v, μ2)) (h : mW m0 w0 μ w) (k : ∀ w2, mW m0 w0 μ2 w2 → Post (some (.int v)) w2) : zOk S (q + 1) 76 0 (lv_args 0 [.int a1]) [] w Post := by
  unfold mF_isPlace at hk
  refine zi_l rfl rfl rfl ?_
  refine zi_ifd rfl rfl rfl (tgt := 14) (by decide) (fun c1 => ?_) (fun c1 => ?_)
  · rw [if_pos c1] at hk
    refine zi_a (st' := .int 0 :: _) rfl rfl rfl ?_
    cases hk
    exact zi_rz rfl rfl (Or.inl rfl) (k w h)
  · rw [if_neg c1] at hk
    refine zi_l rfl rfl rfl ?_
    refine zi_a (st' := .int 16 :: _) rfl rfl rfl ?_
    refine zi_ifd rfl rfl rfl (tgt := 14) (by decide) (fun c2 => ?_) (fun c2 => ?_)
    · rw [if_pos c2] at hk
      refine zi_a (st' := .int 0 :: _) rfl rfl rfl ?_
      cases hk
      exact zi_rz rfl rfl (Or.inl rfl) (k w h)
    · rw [if_neg c2] at hk
      refine zi_a (st' := .int 1 :: _) rfl rfl rfl ?_
      refine zi_go rfl rfl rfl (tgt := 15) (by decide) ?_
      cases hk
      exact zi_rz rfl rfl (Or.inr rfl) (k w h)
def mF_isNode (a1 : Int32) (μ : mS) : Option (Int32 × mS) :=
  if a1 < 0 then (some ((0 : Int32), μ)) else (if (μ.1 0 0) ≤ a1 then (some ((0 : Int32), μ)) else (some ((1 : Int32), μ)))
theorem mT_isNode {S : zS} {q : Nat} {w w0 : zW} {Post : Option Value → zW → Prop} {m0 : Nat} {μ μ2 : mS} {v : Int32} {a1 : Int32} (hq : 0 ≤ q) (hk : mF_isNode a1 μ = some (v, μ2)) (h : mW m0 w0 μ w) (k : ∀ w2, mW m0 w0 μ2 w2 → Post (some (.int v)) w2) : zOk S (q + 1) 75 0 (lv_args 0 [.ref m0, .int a1]) [] w Post := by
  unfold mF_isNode at hk
  refine zi_l rfl rfl rfl ?_
  refine zi_ifd rfl rfl rfl (tgt := 16) (by decide) (fun c1 => ?_) (fun c1 => ?_)
  · rw [if_pos c1] at hk
    refine zi_a (st' := .int 0 :: _) rfl rfl rfl ?_
    cases hk
    exact zi_rz rfl rfl (Or.inl rfl) (k w h)
  · rw [if_neg c1] at hk
    refine zi_l rfl rfl rfl ?_
    refine zi_l rfl rfl rfl ?_
    refine zm_g h rfl rfl rfl rfl ?_
    refine zi_ifd rfl rfl rfl (tgt := 16) (by decide) (fun c2 => ?_) (fun c2 => ?_)
    · rw [if_pos c2] at hk
      refine zi_a (st' := .int 0 :: _) rfl rfl rfl ?_
      cases hk
      exact zi_rz rfl rfl (Or.inl rfl) (k w h)
    · rw [if_neg c2] at hk
      refine zi_a (st' := .int 1 :: _) rfl rfl rfl ?_
      refine zi_go rfl rfl rfl (tgt := 17) (by decide) ?_
      cases hk
      exact zi_rz rfl rfl (Or.inr rfl) (k w h)
def mF_isValue_29 (l1 : Int32) (μ : mS) : Option (Int32 × mS) :=
  some ((1 : Int32), μ)
theorem mT_isValue_29 {S : zS} {q : Nat} {w w0 : zW} {Post : Option Value → zW → Prop} {m0 : Nat} {μ μ2 : mS} {v : Int32} {l1 : Int32} (hq : 1 ≤ q) (hk : mF_isValue_29 l1 μ = some (v, μ2)) (h : mW m0 w0 μ w) (k : ∀ w2, mW m0 w0 μ2 w2 → Post (some (.int v)) w2) : zOk S (q + 1) 77 29 [(0, .ref m0), (1, .int l1)] [] w Post := by
  unfold mF_isValue_29 at hk
  refine zi_a (st' := .int 1 :: _) rfl rfl rfl ?_
  refine zi_go rfl rfl rfl (tgt := 34) (by decide) ?_
  cases hk
  exact zi_rz rfl rfl (Or.inr rfl) (k w h)
def mF_isValue (a1 : Int32) (μ : mS) : Option (Int32 × mS) :=
  match mF_isNode a1 μ with | none => none | some (v2, m3) => if v2 = 0 then (some ((0 : Int32), m3)) else (if zix a1 200 then if (100 : Int32) ≤ (m3.1 1 (a1).toNatClampNeg) then (mF_isValue_29  a1 m3) else (if zix a1 200 then if (5 : Int32) < (m3.1 1 (a1).toNatClampNeg) then (some ((0 : Int32), m3)) else (mF_isValue_29  a1 m3) else none) else none)
theorem mT_isValue {S : zS} {q : Nat} {w w0 : zW} {Post : Option Value → zW → Prop} {m0 : Nat} {μ μ2 : mS} {v : Int32} {a1 : Int32} (hq : 1 ≤ q) (hk : mF_isValue a1 μ = some (v, μ2)) (h : mW m0 w0 μ w) (k : ∀ w2, mW m0 w0 μ2 w2 → Post (some (.int v)) w2) : zOk S (q + 1) 77 0 (lv_args 0 [.ref m0, .int a1]) [] w Post := by
  unfold mF_isValue at hk
  refine zi_l rfl rfl rfl ?_
  refine zi_l rfl rfl rfl ?_
  cases c1 : mF_isNode a1 μ with
  | none => rw [c1] at hk; cases hk
  | some q1 =>
    obtain ⟨v2, m3⟩ := q1
    rw [c1] at hk
    dsimp only at hk
    refine zm_c h rfl rfl rfl rfl rfl rfl ((mT_isNode (q := 0) (Nat.le_refl _) c1 h (fun w h => ?_)).deep (by omega))
    refine zi_ifd rfl rfl rfl (tgt := 33) (by decide) (fun c4 => ?_) (fun c4 => ?_)
    · rw [if_pos c4] at hk
      refine zi_a (st' := .int 0 :: _) rfl rfl rfl ?_
      cases hk
      exact zi_rz rfl rfl (Or.inl rfl) (k w h)
    · rw [if_neg c4] at hk
      refine zi_l rfl rfl rfl ?_
      refine zm_ga (f := 1) h rfl rfl (by decide) ?_
      refine zi_l rfl rfl rfl ?_
      by_cases q5 : zix a1 200
      case neg => rw [if_neg q5] at hk; cases hk
      rw [if_pos q5] at hk
      refine zm_ld (f := 1) h rfl (by decide) rfl q5 ?_
      refine zi_a (st' := .int 100 :: _) rfl rfl rfl ?_
      refine zi_ifd rfl rfl rfl (tgt := 29) (by decide) (fun c6 => ?_) (fun c6 => ?_)
      · rw [if_pos c6] at hk
        exact mT_isValue_29 hq hk h k
      · rw [if_neg c6] at hk
        refine zi_l rfl rfl rfl ?_
        refine zm_ga (f := 1) h rfl rfl (by decide) ?_
        refine zi_l rfl rfl rfl ?_
        by_cases q7 : zix a1 200
        case neg => rw [if_neg q7] at hk; cases hk
        rw [if_pos q7] at hk
        refine zm_ld (f := 1) h rfl (by decide) rfl q7 ?_
        refine zi_a (st' := .int 5 :: _) rfl rfl rfl ?_
        refine zi_ifd rfl rfl rfl (tgt := 33) (by decide) (fun c8 => ?_) (fun c8 => ?_)
        · rw [if_pos c8] at hk
          refine zi_a (st' := .int 0 :: _) rfl rfl rfl ?_
          cases hk
          exact zi_rz rfl rfl (Or.inl rfl) (k w h)
        · rw [if_neg c8] at hk
          exact mT_isValue_29 hq hk h k
def mF_isStatement (a1 : Int32) (μ : mS) : Option (Int32 × mS) :=
  match mF_isNode a1 μ with | none => none | some (v2, m3) => if v2 = 0 then (some ((0 : Int32), m3)) else (if zix a1 200 then if (m3.1 1 (a1).toNatClampNeg) < (10 : Int32) then (some ((0 : Int32), m3)) else (if zix a1 200 then if (21 : Int32) < (m3.1 1 (a1).toNatClampNeg) then (some ((0 : Int32), m3)) else (some ((1 : Int32), m3)) else none) else none)
theorem mT_isStatement {S : zS} {q : Nat} {w w0 : zW} {Post : Option Value → zW → Prop} {m0 : Nat} {μ μ2 : mS} {v : Int32} {a1 : Int32} (hq : 1 ≤ q) (hk : mF_isStatement a1 μ = some (v, μ2)) (h : mW m0 w0 μ w) (k : ∀ w2, mW m0 w0 μ2 w2 → Post (some (.int v)) w2) : zOk S (q + 1) 74 0 (lv_args 0 [.ref m0, .int a1]) [] w Post := by
  unfold mF_isStatement at hk
  refine zi_l rfl rfl rfl ?_
  refine zi_l rfl rfl rfl ?_
  cases c1 : mF_isNode a1 μ with
  | none => rw [c1] at hk; cases hk
  | some q1 =>
    obtain ⟨v2, m3⟩ := q1
    rw [c1] at hk
    dsimp only at hk
    refine zm_c h rfl rfl rfl rfl rfl rfl ((mT_isNode (q := 0) (Nat.le_refl _) c1 h (fun w h => ?_)).deep (by omega))
    refine zi_ifd rfl rfl rfl (tgt := 34) (by decide) (fun c4 => ?_) (fun c4 => ?_)
    · rw [if_pos c4] at hk
      refine zi_a (st' := .int 0 :: _) rfl rfl rfl ?_
      cases hk
      exact zi_rz rfl rfl (Or.inl rfl) (k w h)
    · rw [if_neg c4] at hk
      refine zi_l rfl rfl rfl ?_
      refine zm_ga (f := 1) h rfl rfl (by decide) ?_
      refine zi_l rfl rfl rfl ?_
      by_cases q5 : zix a1 200
      case neg => rw [if_neg q5] at hk; cases hk
      rw [if_pos q5] at hk
      refine zm_ld (f := 1) h rfl (by decide) rfl q5 ?_
      refine zi_a (st' := .int 10 :: _) rfl rfl rfl ?_
      refine zi_ifd rfl rfl rfl (tgt := 34) (by decide) (fun c6 => ?_) (fun c6 => ?_)
      · rw [if_pos c6] at hk
        refine zi_a (st' := .int 0 :: _) rfl rfl rfl ?_
        cases hk
        exact zi_rz rfl rfl (Or.inl rfl) (k w h)
      · rw [if_neg c6] at hk
        refine zi_l rfl rfl rfl ?_
        refine zm_ga (f := 1) h rfl rfl (by decide) ?_
        refine zi_l rfl rfl rfl ?_
        by_cases q7 : zix a1 200
        case neg => rw [if_neg q7] at hk; cases hk
        rw [if_pos q7] at hk
        refine zm_ld (f := 1) h rfl (by decide) rfl q7 ?_
        refine zi_a (st' := .int 21 :: _) rfl rfl rfl ?_
        refine zi_ifd rfl rfl rfl (tgt := 34) (by decide) (fun c8 => ?_) (fun c8 => ?_)
        · rw [if_pos c8] at hk
          refine zi_a (st' := .int 0 :: _) rfl rfl rfl ?_
          cases hk
          exact zi_rz rfl rfl (Or.inl rfl) (k w h)
        · rw [if_neg c8] at hk
          refine zi_a (st' := .int 1 :: _) rfl rfl rfl ?_
          refine zi_go rfl rfl rfl (tgt := 35) (by decide) ?_
          cases hk
          exact zi_rz rfl rfl (Or.inr rfl) (k w h)
def mF_depth (a1 : Int32) (μ : mS) : Option (Int32 × mS) :=
  if ¬ a1 = (-1 : Int32) then (if zix a1 200 then some ((μ.1 6 (a1).toNatClampNeg), μ) else none) else (some ((0 : Int32), μ))
theorem mT_depth {S : zS} {q : Nat} {w w0 : zW} {Post : Option Value → zW → Prop} {m0 : Nat} {μ μ2 : mS} {v : Int32} {a1 : Int32} (hq : 0 ≤ q) (hk : mF_depth a1 μ = some (v, μ2)) (h : mW m0 w0 μ w) (k : ∀ w2, mW m0 w0 μ2 w2 → Post (some (.int v)) w2) : zOk S (q + 1) 78 0 (lv_args 0 [.ref m0, .int a1]) [] w Post := by
  unfold mF_depth at hk
  refine zi_l rfl rfl rfl ?_
  refine zi_a (st' := .int (-1) :: _) rfl rfl rfl ?_
  refine zi_ifd rfl rfl rfl (tgt := 9) (by decide) (fun c1 => ?_) (fun c1 => ?_)
  · rw [if_pos c1] at hk
    refine zi_l rfl rfl rfl ?_
    refine zm_ga (f := 6) h rfl rfl (by decide) ?_
    refine zi_l rfl rfl rfl ?_
    by_cases q2 : zix a1 200
    case neg => rw [if_neg q2] at hk; cases hk
    rw [if_pos q2] at hk
    refine zm_ld (f := 6) h rfl (by decide) rfl q2 ?_
    cases hk
    exact zi_ri rfl rfl (k w h)
  · rw [if_neg c1] at hk
    refine zi_a (st' := .int 0 :: _) rfl rfl rfl ?_
    refine zi_go rfl rfl rfl (tgt := 15) (by decide) ?_
    cases hk
    exact zi_ri rfl rfl (k w h)
def mF_signal (a1 : Int32) (a2 : Int64) (μ : mS) : Option (Int32 × mS) :=
  match mF_isPlace a1 μ with | none => none | some (v2, m3) => if ¬ v2 = 0 then (if zix a1 16 then mPut (mu2 m3 19 (a1).toNatClampNeg a2) fun m6 => some ((1 : Int32), m6) else none) else (some ((0 : Int32), m3))
theorem mT_signal {S : zS} {q : Nat} {w w0 : zW} {Post : Option Value → zW → Prop} {m0 : Nat} {μ μ2 : mS} {v : Int32} {a1 : Int32} {a2 : Int64} (hq : 1 ≤ q) (hk : mF_signal a1 a2 μ = some (v, μ2)) (h : mW m0 w0 μ w) (k : ∀ w2, mW m0 w0 μ2 w2 → Post (some (.int v)) w2) : zOk S (q + 1) 79 0 (lv_args 0 [.ref m0, .int a1, .long a2]) [] w Post := by
  unfold mF_signal at hk
  refine zi_l rfl rfl rfl ?_
  cases c1 : mF_isPlace a1 μ with
  | none => rw [c1] at hk; cases hk
  | some q1 =>
    obtain ⟨v2, m3⟩ := q1
    rw [c1] at hk
    dsimp only at hk
    refine zi_s rfl rfl rfl rfl rfl ((mT_isPlace (q := 0) (Nat.le_refl _) c1 h (fun w h => ?_)).deep (by omega))
    refine zi_ifd rfl rfl rfl (tgt := 9) (by decide) (fun c4 => ?_) (fun c4 => ?_)
    · rw [if_pos c4] at hk
      refine zi_l rfl rfl rfl ?_
      refine zm_ga (f := 19) h rfl rfl (by decide) ?_
      refine zi_l rfl rfl rfl ?_
      refine zi_l rfl rfl rfl ?_
      by_cases q5 : zix a1 16
      case neg => rw [if_neg q5] at hk; cases hk
      rw [if_pos q5] at hk
      refine zm_sl (f := 19) h rfl (by decide) rfl q5 (fun w h => ?_)
      generalize mu2 m3 19 (a1).toNatClampNeg a2 = m6 at h hk
      rw [mPut_eq] at hk
      refine zi_a (st' := .int 1 :: _) rfl rfl rfl ?_
      cases hk
      exact zi_rz rfl rfl (Or.inr rfl) (k w h)
    · rw [if_neg c4] at hk
      refine zi_a (st' := .int 0 :: _) rfl rfl rfl ?_
      cases hk
      exact zi_rz rfl rfl (Or.inl rfl) (k w h)
def mF_value (a1 : Int32) (μ : mS) : Option (Int64 × mS) :=
  match mF_isPlace a1 μ with | none => none | some (v2, m3) => if v2 = 0 then (some ((0 : Int64), m3)) else (if zix a1 16 then some ((m3.2 20 (a1).toNatClampNeg), m3) else none)
theorem mT_value {S : zS} {q : Nat} {w w0 : zW} {Post : Option Value → zW → Prop} {m0 : Nat} {μ μ2 : mS} {v : Int64} {a1 : Int32} (hq : 1 ≤ q) (hk : mF_value a1 μ = some (v, μ2)) (h : mW m0 w0 μ w) (k : ∀ w2, mW m0 w0 μ2 w2 → Post (some (.long v)) w2) : zOk S (q + 1) 107 0 (lv_args 0 [.ref m0, .int a1]) [] w Post := by
  unfold mF_value at hk
  refine zi_l rfl rfl rfl ?_
  cases c1 : mF_isPlace a1 μ with
  | none => rw [c1] at hk; cases hk
  | some q1 =>
    obtain ⟨v2, m3⟩ := q1
    rw [c1] at hk
    dsimp only at hk
    refine zi_s rfl rfl rfl rfl rfl ((mT_isPlace (q := 0) (Nat.le_refl _) c1 h (fun w h => ?_)).deep (by omega))
    refine zi_ifd rfl rfl rfl (tgt := 16) (by decide) (fun c4 => ?_) (fun c4 => ?_)
    · rw [if_pos c4] at hk
      refine zi_a (st' := .long 0 :: _) rfl rfl rfl ?_
      cases hk
      exact zi_rl rfl rfl (k w h)
    · rw [if_neg c4] at hk
      refine zi_l rfl rfl rfl ?_
      refine zm_ga (f := 20) h rfl rfl (by decide) ?_
      refine zi_l rfl rfl rfl ?_
      by_cases q5 : zix a1 16
      case neg => rw [if_neg q5] at hk; cases hk
      rw [if_pos q5] at hk
      refine zm_ll (f := 20) h rfl (by decide) rfl q5 ?_
      refine zi_go rfl rfl rfl (tgt := 17) (by decide) ?_
      cases hk
      exact zi_rl rfl rfl (k w h)
def mF_safe (a1 : Int32) (a2 : Int64) (μ : mS) : Option (Int32 × mS) :=
  match mF_isPlace a1 μ with | none => none | some (v2, m3) => if ¬ v2 = 0 then (if zix a1 16 then mPut (mu2 m3 22 (a1).toNatClampNeg a2) fun m6 => if zix a1 16 then mPut (mu1 m6 23 (a1).toNatClampNeg (1 : Int32)) fun m8 => some ((1 : Int32), m8) else none else none) else (some ((0 : Int32), m3))
theorem mT_safe {S : zS} {q : Nat} {w w0 : zW} {Post : Option Value → zW → Prop} {m0 : Nat} {μ μ2 : mS} {v : Int32} {a1 : Int32} {a2 : Int64} (hq : 1 ≤ q) (hk : mF_safe a1 a2 μ = some (v, μ2)) (h : mW m0 w0 μ w) (k : ∀ w2, mW m0 w0 μ2 w2 → Post (some (.int v)) w2) : zOk S (q + 1) 108 0 (lv_args 0 [.ref m0, .int a1, .long a2]) [] w Post := by
  unfold mF_safe at hk
  refine zi_l rfl rfl rfl ?_
  cases c1 : mF_isPlace a1 μ with
  | none => rw [c1] at hk; cases hk
  | some q1 =>
    obtain ⟨v2, m3⟩ := q1
    rw [c1] at hk
    dsimp only at hk
    refine zi_s rfl rfl rfl rfl rfl ((mT_isPlace (q := 0) (Nat.le_refl _) c1 h (fun w h => ?_)).deep (by omega))
    refine zi_ifd rfl rfl rfl (tgt := 9) (by decide) (fun c4 => ?_) (fun c4 => ?_)
    · rw [if_pos c4] at hk
      refine zi_l rfl rfl rfl ?_
      refine zm_ga (f := 22) h rfl rfl (by decide) ?_
      refine zi_l rfl rfl rfl ?_
      refine zi_l rfl rfl rfl ?_
      by_cases q5 : zix a1 16
      case neg => rw [if_neg q5] at hk; cases hk
      rw [if_pos q5] at hk
      refine zm_sl (f := 22) h rfl (by decide) rfl q5 (fun w h => ?_)
      generalize mu2 m3 22 (a1).toNatClampNeg a2 = m6 at h hk
      rw [mPut_eq] at hk
      refine zi_l rfl rfl rfl ?_
      refine zm_ga (f := 23) h rfl rfl (by decide) ?_
      refine zi_l rfl rfl rfl ?_
      refine zi_a (st' := .int 1 :: _) rfl rfl rfl ?_
      by_cases q7 : zix a1 16
      case neg => rw [if_neg q7] at hk; cases hk
      rw [if_pos q7] at hk
      refine zm_sz (f := 23) h rfl (by decide) rfl rfl q7 (fun w h => ?_)
      generalize mu1 m6 23 (a1).toNatClampNeg (1 : Int32) = m8 at h hk
      rw [mPut_eq] at hk
      refine zi_a (st' := .int 1 :: _) rfl rfl rfl ?_
      cases hk
      exact zi_rz rfl rfl (Or.inr rfl) (k w h)
    · rw [if_neg c4] at hk
      refine zi_a (st' := .int 0 :: _) rfl rfl rfl ?_
      cases hk
      exact zi_rz rfl rfl (Or.inl rfl) (k w h)
def mF_output_42 (l1 : Int32) (μ : mS) : Option (Int64 × mS) :=
  if zix l1 16 then some ((μ.2 21 (l1).toNatClampNeg), μ) else none
theorem mT_output_42 {S : zS} {q : Nat} {w w0 : zW} {Post : Option Value → zW → Prop} {m0 : Nat} {μ μ2 : mS} {v : Int64} {l1 : Int32} (hq : 1 ≤ q) (hk : mF_output_42 l1 μ = some (v, μ2)) (h : mW m0 w0 μ w) (k : ∀ w2, mW m0 w0 μ2 w2 → Post (some (.long v)) w2) : zOk S (q + 1) 98 42 [(0, .ref m0), (1, .int l1)] [] w Post := by
  unfold mF_output_42 at hk
  refine zi_l rfl rfl rfl ?_
  refine zm_ga (f := 21) h rfl rfl (by decide) ?_
  refine zi_l rfl rfl rfl ?_
  by_cases q1 : zix l1 16
  case neg => rw [if_neg q1] at hk; cases hk
  rw [if_pos q1] at hk
  refine zm_ll (f := 21) h rfl (by decide) rfl q1 ?_
  cases hk
  exact zi_rl rfl rfl (k w h)
def mF_output (a1 : Int32) (μ : mS) : Option (Int64 × mS) :=
  match mF_isPlace a1 μ with | none => none | some (v2, m3) => if ¬ v2 = 0 then (if (m3.1 24 0) = 0 then (mF_output_42  a1 m3) else (if ¬ (m3.1 25 0) = (2 : Int32) then (mF_output_42  a1 m3) else (if zix a1 16 then if (m3.1 23 (a1).toNatClampNeg) = 0 then (mF_output_42  a1 m3) else (if zix a1 16 then some ((m3.2 22 (a1).toNatClampNeg), m3) else none) else none))) else (some ((0 : Int64), m3))
theorem mT_output {S : zS} {q : Nat} {w w0 : zW} {Post : Option Value → zW → Prop} {m0 : Nat} {μ μ2 : mS} {v : Int64} {a1 : Int32} (hq : 1 ≤ q) (hk : mF_output a1 μ = some (v, μ2)) (h : mW m0 w0 μ w) (k : ∀ w2, mW m0 w0 μ2 w2 → Post (some (.long v)) w2) : zOk S (q + 1) 98 0 (lv_args 0 [.ref m0, .int a1]) [] w Post := by
  unfold mF_output at hk
  refine zi_l rfl rfl rfl ?_
  cases c1 : mF_isPlace a1 μ with
  | none => rw [c1] at hk; cases hk
  | some q1 =>
    obtain ⟨v2, m3⟩ := q1
    rw [c1] at hk
    dsimp only at hk
    refine zi_s rfl rfl rfl rfl rfl ((mT_isPlace (q := 0) (Nat.le_refl _) c1 h (fun w h => ?_)).deep (by omega))
    refine zi_ifd rfl rfl rfl (tgt := 9) (by decide) (fun c4 => ?_) (fun c4 => ?_)
    · rw [if_pos c4] at hk
      refine zi_l rfl rfl rfl ?_
      refine zm_g h rfl rfl rfl rfl ?_
      refine zi_ifd rfl rfl rfl (tgt := 42) (by decide) (fun c5 => ?_) (fun c5 => ?_)
      · rw [if_pos c5] at hk
        exact mT_output_42 hq hk h k
      · rw [if_neg c5] at hk
        refine zi_l rfl rfl rfl ?_
        refine zm_g h rfl rfl rfl rfl ?_
        refine zi_a (st' := .int 2 :: _) rfl rfl rfl ?_
        refine zi_ifd rfl rfl rfl (tgt := 42) (by decide) (fun c6 => ?_) (fun c6 => ?_)
        · rw [if_pos c6] at hk
          exact mT_output_42 hq hk h k
        · rw [if_neg c6] at hk
          refine zi_l rfl rfl rfl ?_
          refine zm_ga (f := 23) h rfl rfl (by decide) ?_
          refine zi_l rfl rfl rfl ?_
          by_cases q7 : zix a1 16
          case neg => rw [if_neg q7] at hk; cases hk
          rw [if_pos q7] at hk
          refine zm_lz (f := 23) h rfl (by decide) rfl q7 ?_
          refine zi_ifd rfl rfl rfl (tgt := 42) (by decide) (fun c8 => ?_) (fun c8 => ?_)
          · rw [if_pos c8] at hk
            exact mT_output_42 hq hk h k
          · rw [if_neg c8] at hk
            refine zi_l rfl rfl rfl ?_
            refine zm_ga (f := 22) h rfl rfl (by decide) ?_
            refine zi_l rfl rfl rfl ?_
            by_cases q9 : zix a1 16
            case neg => rw [if_neg q9] at hk; cases hk
            rw [if_pos q9] at hk
            refine zm_ll (f := 22) h rfl (by decide) rfl q9 ?_
            refine zi_go rfl rfl rfl (tgt := 48) (by decide) ?_
            cases hk
            exact zi_rl rfl rfl (k w h)
    · rw [if_neg c4] at hk
      refine zi_a (st' := .long 0 :: _) rfl rfl rfl ?_
      cases hk
      exact zi_rl rfl rfl (k w h)
def mF_note (a1 : Int32) (a2 : Int32) (μ : mS) : Option (Unit × mS) :=
  if (200 : Int32) ≤ (μ.1 30 0) then (some ((), μ)) else (if zix (μ.1 30 0) 200 then mPut (mu1 μ 31 ((μ.1 30 0)).toNatClampNeg ((μ.2 26 0)).toInt32) fun m3 => if zix (m3.1 30 0) 200 then mPut (mu1 m3 32 ((m3.1 30 0)).toNatClampNeg a1) fun m5 => if zix (m5.1 30 0) 200 then mPut (mu1 m5 33 ((m5.1 30 0)).toNatClampNeg a2) fun m7 => mPut (mu1 m7 30 0 ((m7.1 30 0) + (1 : Int32))) fun m8 => some ((), m8) else none else none else none)
theorem mT_note {S : zS} {q : Nat} {w w0 : zW} {Post : Option Value → zW → Prop} {m0 : Nat} {μ μ2 : mS} {v : Unit} {a1 : Int32} {a2 : Int32} (hq : 0 ≤ q) (hk : mF_note a1 a2 μ = some (v, μ2)) (h : mW m0 w0 μ w) (k : ∀ w2, mW m0 w0 μ2 w2 → Post none w2) : zOk S (q + 1) 87 0 (lv_args 0 [.ref m0, .int a1, .int a2]) [] w Post := by
  unfold mF_note at hk
  refine zi_l rfl rfl rfl ?_
  refine zm_g h rfl rfl rfl rfl ?_
  refine zi_a (st' := .int 200 :: _) rfl rfl rfl ?_
  refine zi_ifd rfl rfl rfl (tgt := 54) (by decide) (fun c1 => ?_) (fun c1 => ?_)
  · rw [if_pos c1] at hk
    cases hk
    exact zi_ret rfl rfl rfl (k w h)
  · rw [if_neg c1] at hk
    refine zi_l rfl rfl rfl ?_
    refine zm_ga (f := 31) h rfl rfl (by decide) ?_
    refine zi_l rfl rfl rfl ?_
    refine zm_g h rfl rfl rfl rfl ?_
    refine zi_l rfl rfl rfl ?_
    refine zm_gl h rfl rfl rfl rfl ?_
    refine zi_a rfl rfl rfl ?_
    by_cases q2 : zix (μ.1 30 0) 200
    case neg => rw [if_neg q2] at hk; cases hk
    rw [if_pos q2] at hk
    refine zm_st (f := 31) h rfl (by decide) rfl q2 (fun w h => ?_)
    generalize mu1 μ 31 ((μ.1 30 0)).toNatClampNeg ((μ.2 26 0)).toInt32 = m3 at h hk
    rw [mPut_eq] at hk
    refine zi_l rfl rfl rfl ?_
    refine zm_ga (f := 32) h rfl rfl (by decide) ?_
    refine zi_l rfl rfl rfl ?_
    refine zm_g h rfl rfl rfl rfl ?_
    refine zi_l rfl rfl rfl ?_
    by_cases q4 : zix (m3.1 30 0) 200
    case neg => rw [if_neg q4] at hk; cases hk
    rw [if_pos q4] at hk
    refine zm_st (f := 32) h rfl (by decide) rfl q4 (fun w h => ?_)
    generalize mu1 m3 32 ((m3.1 30 0)).toNatClampNeg a1 = m5 at h hk
    rw [mPut_eq] at hk
    refine zi_l rfl rfl rfl ?_
    refine zm_ga (f := 33) h rfl rfl (by decide) ?_
    refine zi_l rfl rfl rfl ?_
    refine zm_g h rfl rfl rfl rfl ?_
    refine zi_l rfl rfl rfl ?_
    by_cases q6 : zix (m5.1 30 0) 200
    case neg => rw [if_neg q6] at hk; cases hk
    rw [if_pos q6] at hk
    refine zm_st (f := 33) h rfl (by decide) rfl q6 (fun w h => ?_)
    generalize mu1 m5 33 ((m5.1 30 0)).toNatClampNeg a2 = m7 at h hk
    rw [mPut_eq] at hk
    refine zi_l rfl rfl rfl ?_
    refine zi_a rfl rfl rfl ?_
    refine zm_g h rfl rfl rfl rfl ?_
    refine zi_a (st' := .int 1 :: _) rfl rfl rfl ?_
    refine zi_a rfl rfl rfl ?_
    refine zm_p h rfl rfl rfl rfl ⟨rfl, rfl, Or.inl rfl⟩ (fun w h => ?_)
    generalize mu1 m7 30 0 ((m7.1 30 0) + (1 : Int32)) = m8 at h hk
    rw [mPut_eq] at hk
    cases hk
    exact zi_ret rfl rfl rfl (k w h)
def mF_isBad (μ : mS) : Option (Int32 × mS) :=
  if 0 ≤ (μ.1 29 0) then (match mF_note (μ.1 29 0) (1 : Int32) μ with | none => none | some (v3, m4) => mPut (mu1 m4 29 0 (-1 : Int32)) fun m5 => some ((1 : Int32), m5)) else (some ((0 : Int32), μ))
theorem mT_isBad {S : zS} {q : Nat} {w w0 : zW} {Post : Option Value → zW → Prop} {m0 : Nat} {μ μ2 : mS} {v : Int32} (hq : 1 ≤ q) (hk : mF_isBad  μ = some (v, μ2)) (h : mW m0 w0 μ w) (k : ∀ w2, mW m0 w0 μ2 w2 → Post (some (.int v)) w2) : zOk S (q + 1) 86 0 (lv_args 0 [.ref m0]) [] w Post := by
  unfold mF_isBad at hk
  refine zi_l rfl rfl rfl ?_
  refine zm_g h rfl rfl rfl rfl ?_
  refine zi_ifd rfl rfl rfl (tgt := 9) (by decide) (fun c1 => ?_) (fun c1 => ?_)
  · rw [if_pos c1] at hk
    refine zi_l rfl rfl rfl ?_
    refine zi_l rfl rfl rfl ?_
    refine zm_g h rfl rfl rfl rfl ?_
    refine zi_a (st' := .int 1 :: _) rfl rfl rfl ?_
    cases c2 : mF_note (μ.1 29 0) (1 : Int32) μ with
    | none => rw [c2] at hk; cases hk
    | some q1 =>
      obtain ⟨v3, m4⟩ := q1
      rw [c2] at hk
      dsimp only at hk
      refine zm_c h rfl rfl rfl rfl rfl rfl ((mT_note (q := 0) (Nat.le_refl _) c2 h (fun w h => ?_)).deep (by omega))
      refine zi_l rfl rfl rfl ?_
      refine zi_a (st' := .int (-1) :: _) rfl rfl rfl ?_
      refine zm_p h rfl rfl rfl rfl ⟨rfl, rfl, Or.inl rfl⟩ (fun w h => ?_)
      generalize mu1 m4 29 0 (-1 : Int32) = m5 at h hk
      rw [mPut_eq] at hk
      refine zi_a (st' := .int 1 :: _) rfl rfl rfl ?_
      cases hk
      exact zi_rz rfl rfl (Or.inr rfl) (k w h)
  · rw [if_neg c1] at hk
    refine zi_a (st' := .int 0 :: _) rfl rfl rfl ?_
    cases hk
    exact zi_rz rfl rfl (Or.inl rfl) (k w h)
def mF_close_20 (l1 : Int32) (μ : mS) : Option (Unit × mS) :=
  mPut (mu1 μ 34 0 ((μ.1 34 0) + (1 : Int32))) fun m1 => some ((), m1)
theorem mT_close_20 {S : zS} {q : Nat} {w w0 : zW} {Post : Option Value → zW → Prop} {m0 : Nat} {μ μ2 : mS} {v : Unit} {l1 : Int32} (hq : 0 ≤ q) (hk : mF_close_20 l1 μ = some (v, μ2)) (h : mW m0 w0 μ w) (k : ∀ w2, mW m0 w0 μ2 w2 → Post none w2) : zOk S (q + 1) 97 20 [(0, .ref m0), (1, .int l1)] [] w Post := by
  unfold mF_close_20 at hk
  refine zi_l rfl rfl rfl ?_
  refine zi_a rfl rfl rfl ?_
  refine zm_g h rfl rfl rfl rfl ?_
  refine zi_a (st' := .int 1 :: _) rfl rfl rfl ?_
  refine zi_a rfl rfl rfl ?_
  refine zm_p h rfl rfl rfl rfl ⟨rfl, rfl, Or.inl rfl⟩ (fun w h => ?_)
  generalize mu1 μ 34 0 ((μ.1 34 0) + (1 : Int32)) = m1 at h hk
  rw [mPut_eq] at hk
  cases hk
  exact zi_ret rfl rfl rfl (k w h)
def mF_close (a1 : Int32) (μ : mS) : Option (Unit × mS) :=
  if (200 : Int32) ≤ (μ.1 34 0) then (mF_close_20  a1 μ) else (if zix (μ.1 34 0) 200 then mPut (mu1 μ 35 ((μ.1 34 0)).toNatClampNeg a1) fun m3 => mF_close_20  a1 m3 else none)
theorem mT_close {S : zS} {q : Nat} {w w0 : zW} {Post : Option Value → zW → Prop} {m0 : Nat} {μ μ2 : mS} {v : Unit} {a1 : Int32} (hq : 0 ≤ q) (hk : mF_close a1 μ = some (v, μ2)) (h : mW m0 w0 μ w) (k : ∀ w2, mW m0 w0 μ2 w2 → Post none w2) : zOk S (q + 1) 97 0 (lv_args 0 [.ref m0, .int a1]) [] w Post := by
  unfold mF_close at hk
  refine zi_l rfl rfl rfl ?_
  refine zm_g h rfl rfl rfl rfl ?_
  refine zi_a (st' := .int 200 :: _) rfl rfl rfl ?_
  refine zi_ifd rfl rfl rfl (tgt := 20) (by decide) (fun c1 => ?_) (fun c1 => ?_)
  · rw [if_pos c1] at hk
    exact mT_close_20 hq hk h k
  · rw [if_neg c1] at hk
    refine zi_l rfl rfl rfl ?_
    refine zm_ga (f := 35) h rfl rfl (by decide) ?_
    refine zi_l rfl rfl rfl ?_
    refine zm_g h rfl rfl rfl rfl ?_
    refine zi_l rfl rfl rfl ?_
    by_cases q2 : zix (μ.1 34 0) 200
    case neg => rw [if_neg q2] at hk; cases hk
    rw [if_pos q2] at hk
    refine zm_st (f := 35) h rfl (by decide) rfl q2 (fun w h => ?_)
    generalize mu1 μ 35 ((μ.1 34 0)).toNatClampNeg a1 = m3 at h hk
    rw [mPut_eq] at hk
    exact mT_close_20 hq hk h k
def mF_isOpen (μ : mS) : Option (Int32 × mS) :=
  if (μ.1 24 0) = 0 then (some ((0 : Int32), μ)) else (if (μ.1 25 0) = (1 : Int32) then (some ((0 : Int32), μ)) else (if (μ.1 25 0) = (3 : Int32) then (some ((0 : Int32), μ)) else (some ((1 : Int32), μ))))
theorem mT_isOpen {S : zS} {q : Nat} {w w0 : zW} {Post : Option Value → zW → Prop} {m0 : Nat} {μ μ2 : mS} {v : Int32} (hq : 0 ≤ q) (hk : mF_isOpen  μ = some (v, μ2)) (h : mW m0 w0 μ w) (k : ∀ w2, mW m0 w0 μ2 w2 → Post (some (.int v)) w2) : zOk S (q + 1) 100 0 (lv_args 0 [.ref m0]) [] w Post := by
  unfold mF_isOpen at hk
  refine zi_l rfl rfl rfl ?_
  refine zm_g h rfl rfl rfl rfl ?_
  refine zi_ifd rfl rfl rfl (tgt := 27) (by decide) (fun c1 => ?_) (fun c1 => ?_)
  · rw [if_pos c1] at hk
    refine zi_a (st' := .int 0 :: _) rfl rfl rfl ?_
    cases hk
    exact zi_rz rfl rfl (Or.inl rfl) (k w h)
  · rw [if_neg c1] at hk
    refine zi_l rfl rfl rfl ?_
    refine zm_g h rfl rfl rfl rfl ?_
    refine zi_a (st' := .int 1 :: _) rfl rfl rfl ?_
    refine zi_ifd rfl rfl rfl (tgt := 27) (by decide) (fun c2 => ?_) (fun c2 => ?_)
    · rw [if_pos c2] at hk
      refine zi_a (st' := .int 0 :: _) rfl rfl rfl ?_
      cases hk
      exact zi_rz rfl rfl (Or.inl rfl) (k w h)
    · rw [if_neg c2] at hk
      refine zi_l rfl rfl rfl ?_
      refine zm_g h rfl rfl rfl rfl ?_
      refine zi_a (st' := .int 3 :: _) rfl rfl rfl ?_
      refine zi_ifd rfl rfl rfl (tgt := 27) (by decide) (fun c3 => ?_) (fun c3 => ?_)
      · rw [if_pos c3] at hk
        refine zi_a (st' := .int 0 :: _) rfl rfl rfl ?_
        cases hk
        exact zi_rz rfl rfl (Or.inl rfl) (k w h)
      · rw [if_neg c3] at hk
        refine zi_a (st' := .int 1 :: _) rfl rfl rfl ?_
        refine zi_go rfl rfl rfl (tgt := 28) (by decide) ?_
        cases hk
        exact zi_rz rfl rfl (Or.inr rfl) (k w h)
def mF_alarm (a1 : Int32) (a2 : Int32) (μ : mS) : Option (Int32 × mS) :=
  if (μ.1 24 0) = 0 then (some ((-1 : Int32), μ)) else (if a1 < 0 then (some ((-1 : Int32), μ)) else (if a1 < (μ.1 30 0) then (if ¬ a2 = 0 then (if ¬ a2 = (1 : Int32) then (if ¬ a2 = (2 : Int32) then (some ((-1 : Int32), μ)) else (if zix a1 200 then some ((μ.1 33 (a1).toNatClampNeg), μ) else none)) else (if zix a1 200 then some ((μ.1 32 (a1).toNatClampNeg), μ) else none)) else (if zix a1 200 then some ((μ.1 31 (a1).toNatClampNeg), μ) else none)) else (some ((-1 : Int32), μ))))
theorem mT_alarm {S : zS} {q : Nat} {w w0 : zW} {Post : Option Value → zW → Prop} {m0 : Nat} {μ μ2 : mS} {v : Int32} {a1 : Int32} {a2 : Int32} (hq : 0 ≤ q) (hk : mF_alarm a1 a2 μ = some (v, μ2)) (h : mW m0 w0 μ w) (k : ∀ w2, mW m0 w0 μ2 w2 → Post (some (.int v)) w2) : zOk S (q + 1) 102 0 (lv_args 0 [.ref m0, .int a1, .int a2]) [] w Post := by
  unfold mF_alarm at hk
  refine zi_l rfl rfl rfl ?_
  refine zm_g h rfl rfl rfl rfl ?_
  refine zi_ifd rfl rfl rfl (tgt := 19) (by decide) (fun c1 => ?_) (fun c1 => ?_)
  · rw [if_pos c1] at hk
    refine zi_a (st' := .int (-1) :: _) rfl rfl rfl ?_
    cases hk
    exact zi_ri rfl rfl (k w h)
  · rw [if_neg c1] at hk
    refine zi_l rfl rfl rfl ?_
    refine zi_ifd rfl rfl rfl (tgt := 19) (by decide) (fun c2 => ?_) (fun c2 => ?_)
    · rw [if_pos c2] at hk
      refine zi_a (st' := .int (-1) :: _) rfl rfl rfl ?_
      cases hk
      exact zi_ri rfl rfl (k w h)
    · rw [if_neg c2] at hk
      refine zi_l rfl rfl rfl ?_
      refine zi_l rfl rfl rfl ?_
      refine zm_g h rfl rfl rfl rfl ?_
      refine zi_ifd rfl rfl rfl (tgt := 21) (by decide) (fun c3 => ?_) (fun c3 => ?_)
      · rw [if_pos c3] at hk
        refine zi_l rfl rfl rfl ?_
        refine zi_ifd rfl rfl rfl (tgt := 34) (by decide) (fun c4 => ?_) (fun c4 => ?_)
        · rw [if_pos c4] at hk
          refine zi_l rfl rfl rfl ?_
          refine zi_a (st' := .int 1 :: _) rfl rfl rfl ?_
          refine zi_ifd rfl rfl rfl (tgt := 48) (by decide) (fun c5 => ?_) (fun c5 => ?_)
          · rw [if_pos c5] at hk
            refine zi_l rfl rfl rfl ?_
            refine zi_a (st' := .int 2 :: _) rfl rfl rfl ?_
            refine zi_ifd rfl rfl rfl (tgt := 62) (by decide) (fun c6 => ?_) (fun c6 => ?_)
            · rw [if_pos c6] at hk
              refine zi_a (st' := .int (-1) :: _) rfl rfl rfl ?_
              cases hk
              exact zi_ri rfl rfl (k w h)
            · rw [if_neg c6] at hk
              refine zi_l rfl rfl rfl ?_
              refine zm_ga (f := 33) h rfl rfl (by decide) ?_
              refine zi_l rfl rfl rfl ?_
              by_cases q7 : zix a1 200
              case neg => rw [if_neg q7] at hk; cases hk
              rw [if_pos q7] at hk
              refine zm_ld (f := 33) h rfl (by decide) rfl q7 ?_
              refine zi_go rfl rfl rfl (tgt := 63) (by decide) ?_
              cases hk
              exact zi_ri rfl rfl (k w h)
          · rw [if_neg c5] at hk
            refine zi_l rfl rfl rfl ?_
            refine zm_ga (f := 32) h rfl rfl (by decide) ?_
            refine zi_l rfl rfl rfl ?_
            by_cases q8 : zix a1 200
            case neg => rw [if_neg q8] at hk; cases hk
            rw [if_pos q8] at hk
            refine zm_ld (f := 32) h rfl (by decide) rfl q8 ?_
            refine zi_go rfl rfl rfl (tgt := 63) (by decide) ?_
            cases hk
            exact zi_ri rfl rfl (k w h)
        · rw [if_neg c4] at hk
          refine zi_l rfl rfl rfl ?_
          refine zm_ga (f := 31) h rfl rfl (by decide) ?_
          refine zi_l rfl rfl rfl ?_
          by_cases q9 : zix a1 200
          case neg => rw [if_neg q9] at hk; cases hk
          rw [if_pos q9] at hk
          refine zm_ld (f := 31) h rfl (by decide) rfl q9 ?_
          refine zi_go rfl rfl rfl (tgt := 63) (by decide) ?_
          cases hk
          exact zi_ri rfl rfl (k w h)
      · rw [if_neg c3] at hk
        refine zi_a (st' := .int (-1) :: _) rfl rfl rfl ?_
        cases hk
        exact zi_ri rfl rfl (k w h)
def mF_hold_36 (l1 : Int32) (s1 : Int32) (μ : mS) : Option (Int32 × mS) :=
  mPut (mu1 μ 25 0 s1) fun m1 => some ((1 : Int32), m1)
theorem mT_hold_36 {S : zS} {q : Nat} {w w0 : zW} {Post : Option Value → zW → Prop} {m0 : Nat} {μ μ2 : mS} {v : Int32} {l1 : Int32} {s1 : Int32} (hq : 1 ≤ q) (hk : mF_hold_36 l1 s1 μ = some (v, μ2)) (h : mW m0 w0 μ w) (k : ∀ w2, mW m0 w0 μ2 w2 → Post (some (.int v)) w2) : zOk S (q + 1) 104 36 [(0, .ref m0), (1, .int l1)] [.int s1, .ref m0] w Post := by
  unfold mF_hold_36 at hk
  refine zm_p h rfl rfl rfl rfl ⟨rfl, rfl, Or.inl rfl⟩ (fun w h => ?_)
  generalize mu1 μ 25 0 s1 = m1 at h hk
  rw [mPut_eq] at hk
  refine zi_a (st' := .int 1 :: _) rfl rfl rfl ?_
  cases hk
  exact zi_rz rfl rfl (Or.inr rfl) (k w h)
def mF_hold_20 (l1 : Int32) (s0 : Int32) (μ : mS) : Option (Int32 × mS) :=
  if ¬ s0 = l1 then (if l1 = 0 then (mF_hold_36  l1 (0 : Int32) μ) else (mF_hold_36  l1 (2 : Int32) μ)) else (some ((0 : Int32), μ))
theorem mT_hold_20 {S : zS} {q : Nat} {w w0 : zW} {Post : Option Value → zW → Prop} {m0 : Nat} {μ μ2 : mS} {v : Int32} {l1 : Int32} {s0 : Int32} (hq : 1 ≤ q) (hk : mF_hold_20 l1 s0 μ = some (v, μ2)) (h : mW m0 w0 μ w) (k : ∀ w2, mW m0 w0 μ2 w2 → Post (some (.int v)) w2) : zOk S (q + 1) 104 20 [(0, .ref m0), (1, .int l1)] [.int s0] w Post := by
  unfold mF_hold_20 at hk
  refine zi_l rfl rfl rfl ?_
  refine zi_ifd rfl rfl rfl (tgt := 26) (by decide) (fun c1 => ?_) (fun c1 => ?_)
  · rw [if_pos c1] at hk
    refine zi_l rfl rfl rfl ?_
    refine zi_l rfl rfl rfl ?_
    refine zi_ifd rfl rfl rfl (tgt := 35) (by decide) (fun c2 => ?_) (fun c2 => ?_)
    · rw [if_pos c2] at hk
      refine zi_a (st' := .int 0 :: _) rfl rfl rfl ?_
      exact mT_hold_36 hq hk h k
    · rw [if_neg c2] at hk
      refine zi_a (st' := .int 2 :: _) rfl rfl rfl ?_
      refine zi_go rfl rfl rfl (tgt := 36) (by decide) ?_
      exact mT_hold_36 hq hk h k
  · rw [if_neg c1] at hk
    refine zi_a (st' := .int 0 :: _) rfl rfl rfl ?_
    cases hk
    exact zi_rz rfl rfl (Or.inl rfl) (k w h)
def mF_hold (a1 : Int32) (μ : mS) : Option (Int32 × mS) :=
  match mF_isOpen  μ with | none => none | some (v2, m3) => if v2 = 0 then (some ((0 : Int32), m3)) else (if ¬ (m3.1 25 0) = (2 : Int32) then (mF_hold_20  a1 (0 : Int32) m3) else (mF_hold_20  a1 (1 : Int32) m3))
theorem mT_hold {S : zS} {q : Nat} {w w0 : zW} {Post : Option Value → zW → Prop} {m0 : Nat} {μ μ2 : mS} {v : Int32} {a1 : Int32} (hq : 1 ≤ q) (hk : mF_hold a1 μ = some (v, μ2)) (h : mW m0 w0 μ w) (k : ∀ w2, mW m0 w0 μ2 w2 → Post (some (.int v)) w2) : zOk S (q + 1) 104 0 (lv_args 0 [.ref m0, .int a1]) [] w Post := by
  unfold mF_hold at hk
  refine zi_l rfl rfl rfl ?_
  cases c1 : mF_isOpen  μ with
  | none => rw [c1] at hk; cases hk
  | some q1 =>
    obtain ⟨v2, m3⟩ := q1
    rw [c1] at hk
    dsimp only at hk
    refine zm_c h rfl rfl rfl rfl rfl rfl ((mT_isOpen (q := 0) (Nat.le_refl _) c1 h (fun w h => ?_)).deep (by omega))
    refine zi_ifd rfl rfl rfl (tgt := 24) (by decide) (fun c4 => ?_) (fun c4 => ?_)
    · rw [if_pos c4] at hk
      refine zi_a (st' := .int 0 :: _) rfl rfl rfl ?_
      cases hk
      exact zi_rz rfl rfl (Or.inl rfl) (k w h)
    · rw [if_neg c4] at hk
      refine zi_l rfl rfl rfl ?_
      refine zm_g h rfl rfl rfl rfl ?_
      refine zi_a (st' := .int 2 :: _) rfl rfl rfl ?_
      refine zi_ifd rfl rfl rfl (tgt := 19) (by decide) (fun c5 => ?_) (fun c5 => ?_)
      · rw [if_pos c5] at hk
        refine zi_a (st' := .int 0 :: _) rfl rfl rfl ?_
        exact mT_hold_20 hq hk h k
      · rw [if_neg c5] at hk
        refine zi_a (st' := .int 1 :: _) rfl rfl rfl ?_
        refine zi_go rfl rfl rfl (tgt := 20) (by decide) ?_
        exact mT_hold_20 hq hk h k
def mF_closed (a1 : Int32) (μ : mS) : Option (Int32 × mS) :=
  if (μ.1 24 0) = 0 then (some ((-1 : Int32), μ)) else (if a1 < 0 then (some ((-1 : Int32), μ)) else (if (μ.1 34 0) ≤ a1 then (some ((-1 : Int32), μ)) else (if (200 : Int32) ≤ a1 then (some ((-1 : Int32), μ)) else (if zix a1 200 then some ((μ.1 35 (a1).toNatClampNeg), μ) else none))))
theorem mT_closed {S : zS} {q : Nat} {w w0 : zW} {Post : Option Value → zW → Prop} {m0 : Nat} {μ μ2 : mS} {v : Int32} {a1 : Int32} (hq : 0 ≤ q) (hk : mF_closed a1 μ = some (v, μ2)) (h : mW m0 w0 μ w) (k : ∀ w2, mW m0 w0 μ2 w2 → Post (some (.int v)) w2) : zOk S (q + 1) 106 0 (lv_args 0 [.ref m0, .int a1]) [] w Post := by
  unfold mF_closed at hk
  refine zi_l rfl rfl rfl ?_
  refine zm_g h rfl rfl rfl rfl ?_
  refine zi_ifd rfl rfl rfl (tgt := 35) (by decide) (fun c1 => ?_) (fun c1 => ?_)
  · rw [if_pos c1] at hk
    refine zi_a (st' := .int (-1) :: _) rfl rfl rfl ?_
    cases hk
    exact zi_ri rfl rfl (k w h)
  · rw [if_neg c1] at hk
    refine zi_l rfl rfl rfl ?_
    refine zi_ifd rfl rfl rfl (tgt := 35) (by decide) (fun c2 => ?_) (fun c2 => ?_)
    · rw [if_pos c2] at hk
      refine zi_a (st' := .int (-1) :: _) rfl rfl rfl ?_
      cases hk
      exact zi_ri rfl rfl (k w h)
    · rw [if_neg c2] at hk
      refine zi_l rfl rfl rfl ?_
      refine zi_l rfl rfl rfl ?_
      refine zm_g h rfl rfl rfl rfl ?_
      refine zi_ifd rfl rfl rfl (tgt := 35) (by decide) (fun c3 => ?_) (fun c3 => ?_)
      · rw [if_pos c3] at hk
        refine zi_a (st' := .int (-1) :: _) rfl rfl rfl ?_
        cases hk
        exact zi_ri rfl rfl (k w h)
      · rw [if_neg c3] at hk
        refine zi_l rfl rfl rfl ?_
        refine zi_a (st' := .int 200 :: _) rfl rfl rfl ?_
        refine zi_ifd rfl rfl rfl (tgt := 35) (by decide) (fun c4 => ?_) (fun c4 => ?_)
        · rw [if_pos c4] at hk
          refine zi_a (st' := .int (-1) :: _) rfl rfl rfl ?_
          cases hk
          exact zi_ri rfl rfl (k w h)
        · rw [if_neg c4] at hk
          refine zi_l rfl rfl rfl ?_
          refine zm_ga (f := 35) h rfl rfl (by decide) ?_
          refine zi_l rfl rfl rfl ?_
          by_cases q5 : zix a1 200
          case neg => rw [if_neg q5] at hk; cases hk
          rw [if_pos q5] at hk
          refine zm_ld (f := 35) h rfl (by decide) rfl q5 ?_
          refine zi_go rfl rfl rfl (tgt := 36) (by decide) ?_
          cases hk
          exact zi_ri rfl rfl (k w h)
def mF_put_146 (l1 : Int32) (l2 : Int32) (l3 : Int32) (l4 : Int32) (l5 : Int64) (l7 : Int32) (l8 : Int32) (s0 : Int32) (μ : mS) : Option (Int32 × mS) :=
  if zix (μ.1 0 0) 200 then if s0 = 0 ∨ s0 = 1 then mPut (mu1 μ 8 ((μ.1 0 0)).toNatClampNeg s0) fun m3 => mPut (mu1 m3 0 0 ((m3.1 0 0) + (1 : Int32))) fun m4 => some (((m4.1 0 0) - (1 : Int32)), m4) else none else none
theorem mT_put_146 {S : zS} {q : Nat} {w w0 : zW} {Post : Option Value → zW → Prop} {m0 : Nat} {μ μ2 : mS} {v : Int32} {l1 : Int32} {l2 : Int32} {l3 : Int32} {l4 : Int32} {l5 : Int64} {l7 : Int32} {l8 : Int32} {s0 : Int32} (hq : 0 ≤ q) (hk : mF_put_146 l1 l2 l3 l4 l5 l7 l8 s0 μ = some (v, μ2)) (h : mW m0 w0 μ w) (k : ∀ w2, mW m0 w0 μ2 w2 → Post (some (.int v)) w2) : zOk S (q + 1) 71 146 [(0, .ref m0), (1, .int l1), (2, .int l2), (3, .int l3), (4, .int l4), (5, .long l5), (7, .int l7), (8, .int l8)] [.int s0] w Post := by
  unfold mF_put_146 at hk
  refine zi_l rfl rfl rfl ?_
  refine zi_l rfl rfl rfl ?_
  refine zm_ga (f := 8) h rfl rfl (by decide) ?_
  refine zi_l rfl rfl rfl ?_
  refine zm_g h rfl rfl rfl rfl ?_
  refine zi_l rfl rfl rfl ?_
  by_cases q1 : zix (μ.1 0 0) 200
  case neg => rw [if_neg q1] at hk; cases hk
  rw [if_pos q1] at hk
  by_cases q2 : s0 = 0 ∨ s0 = 1
  case neg => rw [if_neg q2] at hk; cases hk
  rw [if_pos q2] at hk
  refine zm_sz (f := 8) h rfl (by decide) rfl (z_nb q2) q1 (fun w h => ?_)
  generalize mu1 μ 8 ((μ.1 0 0)).toNatClampNeg s0 = m3 at h hk
  rw [mPut_eq] at hk
  refine zi_l rfl rfl rfl ?_
  refine zi_a rfl rfl rfl ?_
  refine zm_g h rfl rfl rfl rfl ?_
  refine zi_a (st' := .int 1 :: _) rfl rfl rfl ?_
  refine zi_a rfl rfl rfl ?_
  refine zm_p h rfl rfl rfl rfl ⟨rfl, rfl, Or.inl rfl⟩ (fun w h => ?_)
  generalize mu1 m3 0 0 ((m3.1 0 0) + (1 : Int32)) = m4 at h hk
  rw [mPut_eq] at hk
  refine zi_l rfl rfl rfl ?_
  refine zm_g h rfl rfl rfl rfl ?_
  refine zi_a (st' := .int 1 :: _) rfl rfl rfl ?_
  refine zi_a rfl rfl rfl ?_
  cases hk
  exact zi_ri rfl rfl (k w h)
def mF_put_145 (l1 : Int32) (l2 : Int32) (l3 : Int32) (l4 : Int32) (l5 : Int64) (l7 : Int32) (l8 : Int32) (μ : mS) : Option (Int32 × mS) :=
  mF_put_146  l1 l2 l3 l4 l5 l7 l8 (0 : Int32) μ
theorem mT_put_145 {S : zS} {q : Nat} {w w0 : zW} {Post : Option Value → zW → Prop} {m0 : Nat} {μ μ2 : mS} {v : Int32} {l1 : Int32} {l2 : Int32} {l3 : Int32} {l4 : Int32} {l5 : Int64} {l7 : Int32} {l8 : Int32} (hq : 0 ≤ q) (hk : mF_put_145 l1 l2 l3 l4 l5 l7 l8 μ = some (v, μ2)) (h : mW m0 w0 μ w) (k : ∀ w2, mW m0 w0 μ2 w2 → Post (some (.int v)) w2) : zOk S (q + 1) 71 145 [(0, .ref m0), (1, .int l1), (2, .int l2), (3, .int l3), (4, .int l4), (5, .long l5), (7, .int l7), (8, .int l8)] [] w Post := by
  unfold mF_put_145 at hk
  refine zi_a (st' := .int 0 :: _) rfl rfl rfl ?_
  exact mT_put_146 hq hk h k
def mF_put_141 (l1 : Int32) (l2 : Int32) (l3 : Int32) (l4 : Int32) (l5 : Int64) (l7 : Int32) (l8 : Int32) (μ : mS) : Option (Int32 × mS) :=
  mF_put_146  l1 l2 l3 l4 l5 l7 l8 (1 : Int32) μ
theorem mT_put_141 {S : zS} {q : Nat} {w w0 : zW} {Post : Option Value → zW → Prop} {m0 : Nat} {μ μ2 : mS} {v : Int32} {l1 : Int32} {l2 : Int32} {l3 : Int32} {l4 : Int32} {l5 : Int64} {l7 : Int32} {l8 : Int32} (hq : 0 ≤ q) (hk : mF_put_141 l1 l2 l3 l4 l5 l7 l8 μ = some (v, μ2)) (h : mW m0 w0 μ w) (k : ∀ w2, mW m0 w0 μ2 w2 → Post (some (.int v)) w2) : zOk S (q + 1) 71 141 [(0, .ref m0), (1, .int l1), (2, .int l2), (3, .int l3), (4, .int l4), (5, .long l5), (7, .int l7), (8, .int l8)] [] w Post := by
  unfold mF_put_141 at hk
  refine zi_a (st' := .int 1 :: _) rfl rfl rfl ?_
  refine zi_go rfl rfl rfl (tgt := 146) (by decide) ?_
  exact mT_put_146 hq hk h k
def mF_put_110 (l1 : Int32) (l2 : Int32) (l3 : Int32) (l4 : Int32) (l5 : Int64) (l7 : Int32) (l8 : Int32) (μ : mS) : Option (Int32 × mS) :=
  if ¬ l1 = (16 : Int32) then (mF_put_145  l1 l2 l3 l4 l5 l7 l8 μ) else (if zix l3 200 then if (μ.1 8 (l3).toNatClampNeg) = 0 then (mF_put_145  l1 l2 l3 l4 l5 l7 l8 μ) else (if l4 = (-1 : Int32) then (mF_put_141  l1 l2 l3 l4 l5 l7 l8 μ) else (if zix l4 200 then if (μ.1 8 (l4).toNatClampNeg) = 0 then (mF_put_145  l1 l2 l3 l4 l5 l7 l8 μ) else (mF_put_141  l1 l2 l3 l4 l5 l7 l8 μ) else none)) else none)
theorem mT_put_110 {S : zS} {q : Nat} {w w0 : zW} {Post : Option Value → zW → Prop} {m0 : Nat} {μ μ2 : mS} {v : Int32} {l1 : Int32} {l2 : Int32} {l3 : Int32} {l4 : Int32} {l5 : Int64} {l7 : Int32} {l8 : Int32} (hq : 0 ≤ q) (hk : mF_put_110 l1 l2 l3 l4 l5 l7 l8 μ = some (v, μ2)) (h : mW m0 w0 μ w) (k : ∀ w2, mW m0 w0 μ2 w2 → Post (some (.int v)) w2) : zOk S (q + 1) 71 110 [(0, .ref m0), (1, .int l1), (2, .int l2), (3, .int l3), (4, .int l4), (5, .long l5), (7, .int l7), (8, .int l8)] [] w Post := by
  unfold mF_put_110 at hk
  refine zi_l rfl rfl rfl ?_
  refine zi_a (st' := .int 16 :: _) rfl rfl rfl ?_
  refine zi_ifd rfl rfl rfl (tgt := 145) (by decide) (fun c1 => ?_) (fun c1 => ?_)
  · rw [if_pos c1] at hk
    exact mT_put_145 hq hk h k
  · rw [if_neg c1] at hk
    refine zi_l rfl rfl rfl ?_
    refine zm_ga (f := 8) h rfl rfl (by decide) ?_
    refine zi_l rfl rfl rfl ?_
    by_cases q2 : zix l3 200
    case neg => rw [if_neg q2] at hk; cases hk
    rw [if_pos q2] at hk
    refine zm_lz (f := 8) h rfl (by decide) rfl q2 ?_
    refine zi_ifd rfl rfl rfl (tgt := 145) (by decide) (fun c3 => ?_) (fun c3 => ?_)
    · rw [if_pos c3] at hk
      exact mT_put_145 hq hk h k
    · rw [if_neg c3] at hk
      refine zi_l rfl rfl rfl ?_
      refine zi_a (st' := .int (-1) :: _) rfl rfl rfl ?_
      refine zi_ifd rfl rfl rfl (tgt := 141) (by decide) (fun c4 => ?_) (fun c4 => ?_)
      · rw [if_pos c4] at hk
        exact mT_put_141 hq hk h k
      · rw [if_neg c4] at hk
        refine zi_l rfl rfl rfl ?_
        refine zm_ga (f := 8) h rfl rfl (by decide) ?_
        refine zi_l rfl rfl rfl ?_
        by_cases q5 : zix l4 200
        case neg => rw [if_neg q5] at hk; cases hk
        rw [if_pos q5] at hk
        refine zm_lz (f := 8) h rfl (by decide) rfl q5 ?_
        refine zi_ifd rfl rfl rfl (tgt := 145) (by decide) (fun c6 => ?_) (fun c6 => ?_)
        · rw [if_pos c6] at hk
          exact mT_put_145 hq hk h k
        · rw [if_neg c6] at hk
          exact mT_put_141 hq hk h k
def mF_put (a1 : Int32) (a2 : Int32) (a3 : Int32) (a4 : Int32) (a5 : Int64) (a6 : Int32) (a7 : Int32) (μ : mS) : Option (Int32 × mS) :=
  if zix (μ.1 0 0) 200 then mPut (mu1 μ 1 ((μ.1 0 0)).toNatClampNeg a1) fun m2 => if zix (m2.1 0 0) 200 then mPut (mu1 m2 2 ((m2.1 0 0)).toNatClampNeg a2) fun m4 => if zix (m4.1 0 0) 200 then mPut (mu1 m4 3 ((m4.1 0 0)).toNatClampNeg a3) fun m6 => if zix (m6.1 0 0) 200 then mPut (mu1 m6 4 ((m6.1 0 0)).toNatClampNeg a4) fun m8 => if zix (m8.1 0 0) 200 then mPut (mu2 m8 5 ((m8.1 0 0)).toNatClampNeg a5) fun m10 => if zix (m10.1 0 0) 200 then mPut (mu1 m10 6 ((m10.1 0 0)).toNatClampNeg a6) fun m12 => if zix (m12.1 0 0) 200 then mPut (mu1 m12 7 ((m12.1 0 0)).toNatClampNeg a7) fun m14 => if a1 = (11 : Int32) then (mF_put_141  a1 a2 a3 a4 a5 a6 a7 m14) else (if a1 = (12 : Int32) then (mF_put_141  a1 a2 a3 a4 a5 a6 a7 m14) else (if ¬ a1 = (10 : Int32) then (mF_put_110  a1 a2 a3 a4 a5 a6 a7 m14) else (if zix a2 200 then if (m14.1 8 (a2).toNatClampNeg) = 0 then (mF_put_110  a1 a2 a3 a4 a5 a6 a7 m14) else (if zix a3 200 then if ¬ (m14.1 8 (a3).toNatClampNeg) = 0 then (mF_put_141  a1 a2 a3 a4 a5 a6 a7 m14) else (mF_put_110  a1 a2 a3 a4 a5 a6 a7 m14) else none) else none))) else none else none else none else none else none else none else none
theorem mT_put {S : zS} {q : Nat} {w w0 : zW} {Post : Option Value → zW → Prop} {m0 : Nat} {μ μ2 : mS} {v : Int32} {a1 : Int32} {a2 : Int32} {a3 : Int32} {a4 : Int32} {a5 : Int64} {a6 : Int32} {a7 : Int32} (hq : 0 ≤ q) (hk : mF_put a1 a2 a3 a4 a5 a6 a7 μ = some (v, μ2)) (h : mW m0 w0 μ w) (k : ∀ w2, mW m0 w0 μ2 w2 → Post (some (.int v)) w2) : zOk S (q + 1) 71 0 (lv_args 0 [.ref m0, .int a1, .int a2, .int a3, .int a4, .long a5, .int a6, .int a7]) [] w Post := by
  unfold mF_put at hk
  refine zi_l rfl rfl rfl ?_
  refine zm_ga (f := 1) h rfl rfl (by decide) ?_
  refine zi_l rfl rfl rfl ?_
  refine zm_g h rfl rfl rfl rfl ?_
  refine zi_l rfl rfl rfl ?_
  by_cases q1 : zix (μ.1 0 0) 200
  case neg => rw [if_neg q1] at hk; cases hk
  rw [if_pos q1] at hk
  refine zm_st (f := 1) h rfl (by decide) rfl q1 (fun w h => ?_)
  generalize mu1 μ 1 ((μ.1 0 0)).toNatClampNeg a1 = m2 at h hk
  rw [mPut_eq] at hk
  refine zi_l rfl rfl rfl ?_
  refine zm_ga (f := 2) h rfl rfl (by decide) ?_
  refine zi_l rfl rfl rfl ?_
  refine zm_g h rfl rfl rfl rfl ?_
  refine zi_l rfl rfl rfl ?_
  by_cases q3 : zix (m2.1 0 0) 200
  case neg => rw [if_neg q3] at hk; cases hk
  rw [if_pos q3] at hk
  refine zm_st (f := 2) h rfl (by decide) rfl q3 (fun w h => ?_)
  generalize mu1 m2 2 ((m2.1 0 0)).toNatClampNeg a2 = m4 at h hk
  rw [mPut_eq] at hk
  refine zi_l rfl rfl rfl ?_
  refine zm_ga (f := 3) h rfl rfl (by decide) ?_
  refine zi_l rfl rfl rfl ?_
  refine zm_g h rfl rfl rfl rfl ?_
  refine zi_l rfl rfl rfl ?_
  by_cases q5 : zix (m4.1 0 0) 200
  case neg => rw [if_neg q5] at hk; cases hk
  rw [if_pos q5] at hk
  refine zm_st (f := 3) h rfl (by decide) rfl q5 (fun w h => ?_)
  generalize mu1 m4 3 ((m4.1 0 0)).toNatClampNeg a3 = m6 at h hk
  rw [mPut_eq] at hk
  refine zi_l rfl rfl rfl ?_
  refine zm_ga (f := 4) h rfl rfl (by decide) ?_
  refine zi_l rfl rfl rfl ?_
  refine zm_g h rfl rfl rfl rfl ?_
  refine zi_l rfl rfl rfl ?_
  by_cases q7 : zix (m6.1 0 0) 200
  case neg => rw [if_neg q7] at hk; cases hk
  rw [if_pos q7] at hk
  refine zm_st (f := 4) h rfl (by decide) rfl q7 (fun w h => ?_)
  generalize mu1 m6 4 ((m6.1 0 0)).toNatClampNeg a4 = m8 at h hk
  rw [mPut_eq] at hk
  refine zi_l rfl rfl rfl ?_
  refine zm_ga (f := 5) h rfl rfl (by decide) ?_
  refine zi_l rfl rfl rfl ?_
  refine zm_g h rfl rfl rfl rfl ?_
  refine zi_l rfl rfl rfl ?_
  by_cases q9 : zix (m8.1 0 0) 200
  case neg => rw [if_neg q9] at hk; cases hk
  rw [if_pos q9] at hk
  refine zm_sl (f := 5) h rfl (by decide) rfl q9 (fun w h => ?_)
  generalize mu2 m8 5 ((m8.1 0 0)).toNatClampNeg a5 = m10 at h hk
  rw [mPut_eq] at hk
  refine zi_l rfl rfl rfl ?_
  refine zm_ga (f := 6) h rfl rfl (by decide) ?_
  refine zi_l rfl rfl rfl ?_
  refine zm_g h rfl rfl rfl rfl ?_
  refine zi_l rfl rfl rfl ?_
  by_cases q11 : zix (m10.1 0 0) 200
  case neg => rw [if_neg q11] at hk; cases hk
  rw [if_pos q11] at hk
  refine zm_st (f := 6) h rfl (by decide) rfl q11 (fun w h => ?_)
  generalize mu1 m10 6 ((m10.1 0 0)).toNatClampNeg a6 = m12 at h hk
  rw [mPut_eq] at hk
  refine zi_l rfl rfl rfl ?_
  refine zm_ga (f := 7) h rfl rfl (by decide) ?_
  refine zi_l rfl rfl rfl ?_
  refine zm_g h rfl rfl rfl rfl ?_
  refine zi_l rfl rfl rfl ?_
  by_cases q13 : zix (m12.1 0 0) 200
  case neg => rw [if_neg q13] at hk; cases hk
  rw [if_pos q13] at hk
  refine zm_st (f := 7) h rfl (by decide) rfl q13 (fun w h => ?_)
  generalize mu1 m12 7 ((m12.1 0 0)).toNatClampNeg a7 = m14 at h hk
  rw [mPut_eq] at hk
  refine zi_l rfl rfl rfl ?_
  refine zi_a (st' := .int 11 :: _) rfl rfl rfl ?_
  refine zi_ifd rfl rfl rfl (tgt := 141) (by decide) (fun c15 => ?_) (fun c15 => ?_)
  · rw [if_pos c15] at hk
    exact mT_put_141 hq hk h k
  · rw [if_neg c15] at hk
    refine zi_l rfl rfl rfl ?_
    refine zi_a (st' := .int 12 :: _) rfl rfl rfl ?_
    refine zi_ifd rfl rfl rfl (tgt := 141) (by decide) (fun c16 => ?_) (fun c16 => ?_)
    · rw [if_pos c16] at hk
      exact mT_put_141 hq hk h k
    · rw [if_neg c16] at hk
      refine zi_l rfl rfl rfl ?_
      refine zi_a (st' := .int 10 :: _) rfl rfl rfl ?_
      refine zi_ifd rfl rfl rfl (tgt := 110) (by decide) (fun c17 => ?_) (fun c17 => ?_)
      · rw [if_pos c17] at hk
        exact mT_put_110 hq hk h k
      · rw [if_neg c17] at hk
        refine zi_l rfl rfl rfl ?_
        refine zm_ga (f := 8) h rfl rfl (by decide) ?_
        refine zi_l rfl rfl rfl ?_
        by_cases q18 : zix a2 200
        case neg => rw [if_neg q18] at hk; cases hk
        rw [if_pos q18] at hk
        refine zm_lz (f := 8) h rfl (by decide) rfl q18 ?_
        refine zi_ifd rfl rfl rfl (tgt := 110) (by decide) (fun c19 => ?_) (fun c19 => ?_)
        · rw [if_pos c19] at hk
          exact mT_put_110 hq hk h k
        · rw [if_neg c19] at hk
          refine zi_l rfl rfl rfl ?_
          refine zm_ga (f := 8) h rfl rfl (by decide) ?_
          refine zi_l rfl rfl rfl ?_
          by_cases q20 : zix a3 200
          case neg => rw [if_neg q20] at hk; cases hk
          rw [if_pos q20] at hk
          refine zm_lz (f := 8) h rfl (by decide) rfl q20 ?_
          refine zi_ifd rfl rfl rfl (tgt := 141) (by decide) (fun c21 => ?_) (fun c21 => ?_)
          · rw [if_pos c21] at hk
            exact mT_put_141 hq hk h k
          · rw [if_neg c21] at hk
            exact mT_put_110 hq hk h k
def mF_leaf_35 (l1 : Int32) (l2 : Int64) (μ : mS) : Option (Int32 × mS) :=
  if ¬ (μ.1 0 0) = (200 : Int32) then (match mF_put ((100 : Int32) + l1) (-1 : Int32) (-1 : Int32) (-1 : Int32) l2 (1 : Int32) (1 : Int32) μ with | none => none | some (v3, m4) => some (v3, m4)) else (some ((-2 : Int32), μ))
theorem mT_leaf_35 {S : zS} {q : Nat} {w w0 : zW} {Post : Option Value → zW → Prop} {m0 : Nat} {μ μ2 : mS} {v : Int32} {l1 : Int32} {l2 : Int64} (hq : 1 ≤ q) (hk : mF_leaf_35 l1 l2 μ = some (v, μ2)) (h : mW m0 w0 μ w) (k : ∀ w2, mW m0 w0 μ2 w2 → Post (some (.int v)) w2) : zOk S (q + 1) 70 35 [(0, .ref m0), (1, .int l1), (2, .long l2)] [] w Post := by
  unfold mF_leaf_35 at hk
  refine zi_l rfl rfl rfl ?_
  refine zm_g h rfl rfl rfl rfl ?_
  refine zi_a (st' := .int 200 :: _) rfl rfl rfl ?_
  refine zi_ifd rfl rfl rfl (tgt := 48) (by decide) (fun c1 => ?_) (fun c1 => ?_)
  · rw [if_pos c1] at hk
    refine zi_l rfl rfl rfl ?_
    refine zi_a (st' := .int 100 :: _) rfl rfl rfl ?_
    refine zi_l rfl rfl rfl ?_
    refine zi_a rfl rfl rfl ?_
    refine zi_a (st' := .int (-1) :: _) rfl rfl rfl ?_
    refine zi_a (st' := .int (-1) :: _) rfl rfl rfl ?_
    refine zi_a (st' := .int (-1) :: _) rfl rfl rfl ?_
    refine zi_l rfl rfl rfl ?_
    refine zi_a (st' := .int 1 :: _) rfl rfl rfl ?_
    refine zi_a (st' := .int 1 :: _) rfl rfl rfl ?_
    cases c2 : mF_put ((100 : Int32) + l1) (-1 : Int32) (-1 : Int32) (-1 : Int32) l2 (1 : Int32) (1 : Int32) μ with
    | none => rw [c2] at hk; cases hk
    | some q1 =>
      obtain ⟨v3, m4⟩ := q1
      rw [c2] at hk
      dsimp only at hk
      refine zm_c h rfl rfl rfl rfl rfl rfl ((mT_put (q := 0) (Nat.le_refl _) c2 h (fun w h => ?_)).deep (by omega))
      cases hk
      exact zi_ri rfl rfl (k w h)
  · rw [if_neg c1] at hk
    refine zi_a (st' := .int (-2) :: _) rfl rfl rfl ?_
    cases hk
    exact zi_ri rfl rfl (k w h)
def mF_leaf_19 (l1 : Int32) (l2 : Int64) (μ : mS) : Option (Int32 × mS) :=
  if (lg_cmp l2 (0 : Int64)) < 0 then (some ((-1 : Int32), μ)) else (if (lg_cmp l2 (15 : Int64)) ≤ 0 then (mF_leaf_35  l1 l2 μ) else (some ((-1 : Int32), μ)))
theorem mT_leaf_19 {S : zS} {q : Nat} {w w0 : zW} {Post : Option Value → zW → Prop} {m0 : Nat} {μ μ2 : mS} {v : Int32} {l1 : Int32} {l2 : Int64} (hq : 1 ≤ q) (hk : mF_leaf_19 l1 l2 μ = some (v, μ2)) (h : mW m0 w0 μ w) (k : ∀ w2, mW m0 w0 μ2 w2 → Post (some (.int v)) w2) : zOk S (q + 1) 70 19 [(0, .ref m0), (1, .int l1), (2, .long l2)] [] w Post := by
  unfold mF_leaf_19 at hk
  refine zi_l rfl rfl rfl ?_
  refine zi_a (st' := .long 0 :: _) rfl rfl rfl ?_
  refine zi_a rfl rfl rfl ?_
  refine zi_ifd rfl rfl rfl (tgt := 33) (by decide) (fun c1 => ?_) (fun c1 => ?_)
  · rw [if_pos c1] at hk
    refine zi_a (st' := .int (-1) :: _) rfl rfl rfl ?_
    cases hk
    exact zi_ri rfl rfl (k w h)
  · rw [if_neg c1] at hk
    refine zi_l rfl rfl rfl ?_
    refine zi_c2 rfl rfl ?_
    refine zi_a rfl rfl rfl ?_
    refine zi_ifd rfl rfl rfl (tgt := 35) (by decide) (fun c2 => ?_) (fun c2 => ?_)
    · rw [if_pos c2] at hk
      exact mT_leaf_35 hq hk h k
    · rw [if_neg c2] at hk
      refine zi_a (st' := .int (-1) :: _) rfl rfl rfl ?_
      cases hk
      exact zi_ri rfl rfl (k w h)
def mF_leaf (a1 : Int32) (a2 : Int64) (μ : mS) : Option (Int32 × mS) :=
  if a1 < 0 then (some ((-1 : Int32), μ)) else (if (3 : Int32) < a1 then (some ((-1 : Int32), μ)) else (if a1 = (1 : Int32) then (mF_leaf_19  a1 a2 μ) else (if ¬ a1 = (2 : Int32) then (mF_leaf_35  a1 a2 μ) else (mF_leaf_19  a1 a2 μ))))
theorem mT_leaf {S : zS} {q : Nat} {w w0 : zW} {Post : Option Value → zW → Prop} {m0 : Nat} {μ μ2 : mS} {v : Int32} {a1 : Int32} {a2 : Int64} (hq : 1 ≤ q) (hk : mF_leaf a1 a2 μ = some (v, μ2)) (h : mW m0 w0 μ w) (k : ∀ w2, mW m0 w0 μ2 w2 → Post (some (.int v)) w2) : zOk S (q + 1) 70 0 (lv_args 0 [.ref m0, .int a1, .long a2]) [] w Post := by
  unfold mF_leaf at hk
  refine zi_l rfl rfl rfl ?_
  refine zi_ifd rfl rfl rfl (tgt := 33) (by decide) (fun c1 => ?_) (fun c1 => ?_)
  · rw [if_pos c1] at hk
    refine zi_a (st' := .int (-1) :: _) rfl rfl rfl ?_
    cases hk
    exact zi_ri rfl rfl (k w h)
  · rw [if_neg c1] at hk
    refine zi_l rfl rfl rfl ?_
    refine zi_a (st' := .int 3 :: _) rfl rfl rfl ?_
    refine zi_ifd rfl rfl rfl (tgt := 33) (by decide) (fun c2 => ?_) (fun c2 => ?_)
    · rw [if_pos c2] at hk
      refine zi_a (st' := .int (-1) :: _) rfl rfl rfl ?_
      cases hk
      exact zi_ri rfl rfl (k w h)
    · rw [if_neg c2] at hk
      refine zi_l rfl rfl rfl ?_
      refine zi_a (st' := .int 1 :: _) rfl rfl rfl ?_
      refine zi_ifd rfl rfl rfl (tgt := 19) (by decide) (fun c3 => ?_) (fun c3 => ?_)
      · rw [if_pos c3] at hk
        exact mT_leaf_19 hq hk h k
      · rw [if_neg c3] at hk
        refine zi_l rfl rfl rfl ?_
        refine zi_a (st' := .int 2 :: _) rfl rfl rfl ?_
        refine zi_ifd rfl rfl rfl (tgt := 35) (by decide) (fun c4 => ?_) (fun c4 => ?_)
        · rw [if_pos c4] at hk
          exact mT_leaf_35 hq hk h k
        · rw [if_neg c4] at hk
          exact mT_leaf_19 hq hk h k
def mF_areParts_64 (l1 : Int32) (l2 : Int32) (l3 : Int32) (l4 : Int32) (μ : mS) : Option (Int32 × mS) :=
  match mF_isStatement l2 μ with | none => none | some (v2, m3) => if v2 = 0 then (some ((0 : Int32), m3)) else (match mF_isStatement l3 m3 with | none => none | some (v6, m7) => if v6 = 0 then (some ((0 : Int32), m7)) else (some ((1 : Int32), m7)))
theorem mT_areParts_64 {S : zS} {q : Nat} {w w0 : zW} {Post : Option Value → zW → Prop} {m0 : Nat} {μ μ2 : mS} {v : Int32} {l1 : Int32} {l2 : Int32} {l3 : Int32} {l4 : Int32} (hq : 2 ≤ q) (hk : mF_areParts_64 l1 l2 l3 l4 μ = some (v, μ2)) (h : mW m0 w0 μ w) (k : ∀ w2, mW m0 w0 μ2 w2 → Post (some (.int v)) w2) : zOk S (q + 1) 73 64 [(0, .ref m0), (1, .int l1), (2, .int l2), (3, .int l3), (4, .int l4)] [] w Post := by
  unfold mF_areParts_64 at hk
  refine zi_l rfl rfl rfl ?_
  refine zi_l rfl rfl rfl ?_
  cases c1 : mF_isStatement l2 μ with
  | none => rw [c1] at hk; cases hk
  | some q1 =>
    obtain ⟨v2, m3⟩ := q1
    rw [c1] at hk
    dsimp only at hk
    refine zm_c h rfl rfl rfl rfl rfl rfl ((mT_isStatement (q := 1) (Nat.le_refl _) c1 h (fun w h => ?_)).deep (by omega))
    refine zi_ifd rfl rfl rfl (tgt := 84) (by decide) (fun c4 => ?_) (fun c4 => ?_)
    · rw [if_pos c4] at hk
      refine zi_a (st' := .int 0 :: _) rfl rfl rfl ?_
      cases hk
      exact zi_rz rfl rfl (Or.inl rfl) (k w h)
    · rw [if_neg c4] at hk
      refine zi_l rfl rfl rfl ?_
      refine zi_l rfl rfl rfl ?_
      cases c5 : mF_isStatement l3 m3 with
      | none => rw [c5] at hk; cases hk
      | some q1 =>
        obtain ⟨v6, m7⟩ := q1
        rw [c5] at hk
        dsimp only at hk
        refine zm_c h rfl rfl rfl rfl rfl rfl ((mT_isStatement (q := 1) (Nat.le_refl _) c5 h (fun w h => ?_)).deep (by omega))
        refine zi_ifd rfl rfl rfl (tgt := 84) (by decide) (fun c8 => ?_) (fun c8 => ?_)
        · rw [if_pos c8] at hk
          refine zi_a (st' := .int 0 :: _) rfl rfl rfl ?_
          cases hk
          exact zi_rz rfl rfl (Or.inl rfl) (k w h)
        · rw [if_neg c8] at hk
          refine zi_a (st' := .int 1 :: _) rfl rfl rfl ?_
          refine zi_go rfl rfl rfl (tgt := 85) (by decide) ?_
          cases hk
          exact zi_rz rfl rfl (Or.inr rfl) (k w h)
def mF_areParts_86 (l1 : Int32) (l2 : Int32) (l3 : Int32) (l4 : Int32) (μ : mS) : Option (Int32 × mS) :=
  match mF_isPlace l2 μ with | none => none | some (v2, m3) => if v2 = 0 then (some ((0 : Int32), m3)) else (match mF_isValue l3 m3 with | none => none | some (v6, m7) => if v6 = 0 then (some ((0 : Int32), m7)) else (some ((1 : Int32), m7)))
theorem mT_areParts_86 {S : zS} {q : Nat} {w w0 : zW} {Post : Option Value → zW → Prop} {m0 : Nat} {μ μ2 : mS} {v : Int32} {l1 : Int32} {l2 : Int32} {l3 : Int32} {l4 : Int32} (hq : 2 ≤ q) (hk : mF_areParts_86 l1 l2 l3 l4 μ = some (v, μ2)) (h : mW m0 w0 μ w) (k : ∀ w2, mW m0 w0 μ2 w2 → Post (some (.int v)) w2) : zOk S (q + 1) 73 86 [(0, .ref m0), (1, .int l1), (2, .int l2), (3, .int l3), (4, .int l4)] [] w Post := by
  unfold mF_areParts_86 at hk
  refine zi_l rfl rfl rfl ?_
  cases c1 : mF_isPlace l2 μ with
  | none => rw [c1] at hk; cases hk
  | some q1 =>
    obtain ⟨v2, m3⟩ := q1
    rw [c1] at hk
    dsimp only at hk
    refine zi_s rfl rfl rfl rfl rfl ((mT_isPlace (q := 0) (Nat.le_refl _) c1 h (fun w h => ?_)).deep (by omega))
    refine zi_ifd rfl rfl rfl (tgt := 105) (by decide) (fun c4 => ?_) (fun c4 => ?_)
    · rw [if_pos c4] at hk
      refine zi_a (st' := .int 0 :: _) rfl rfl rfl ?_
      cases hk
      exact zi_rz rfl rfl (Or.inl rfl) (k w h)
    · rw [if_neg c4] at hk
      refine zi_l rfl rfl rfl ?_
      refine zi_l rfl rfl rfl ?_
      cases c5 : mF_isValue l3 m3 with
      | none => rw [c5] at hk; cases hk
      | some q1 =>
        obtain ⟨v6, m7⟩ := q1
        rw [c5] at hk
        dsimp only at hk
        refine zm_c h rfl rfl rfl rfl rfl rfl ((mT_isValue (q := 1) (Nat.le_refl _) c5 h (fun w h => ?_)).deep (by omega))
        refine zi_ifd rfl rfl rfl (tgt := 105) (by decide) (fun c8 => ?_) (fun c8 => ?_)
        · rw [if_pos c8] at hk
          refine zi_a (st' := .int 0 :: _) rfl rfl rfl ?_
          cases hk
          exact zi_rz rfl rfl (Or.inl rfl) (k w h)
        · rw [if_neg c8] at hk
          refine zi_a (st' := .int 1 :: _) rfl rfl rfl ?_
          refine zi_go rfl rfl rfl (tgt := 106) (by decide) ?_
          cases hk
          exact zi_rz rfl rfl (Or.inr rfl) (k w h)
def mF_areParts_107 (l1 : Int32) (l2 : Int32) (l3 : Int32) (l4 : Int32) (μ : mS) : Option (Int32 × mS) :=
  match mF_isValue l2 μ with | none => none | some (v2, m3) => if v2 = 0 ∨ v2 = 1 then some (v2, m3) else none
theorem mT_areParts_107 {S : zS} {q : Nat} {w w0 : zW} {Post : Option Value → zW → Prop} {m0 : Nat} {μ μ2 : mS} {v : Int32} {l1 : Int32} {l2 : Int32} {l3 : Int32} {l4 : Int32} (hq : 2 ≤ q) (hk : mF_areParts_107 l1 l2 l3 l4 μ = some (v, μ2)) (h : mW m0 w0 μ w) (k : ∀ w2, mW m0 w0 μ2 w2 → Post (some (.int v)) w2) : zOk S (q + 1) 73 107 [(0, .ref m0), (1, .int l1), (2, .int l2), (3, .int l3), (4, .int l4)] [] w Post := by
  unfold mF_areParts_107 at hk
  refine zi_l rfl rfl rfl ?_
  refine zi_l rfl rfl rfl ?_
  cases c1 : mF_isValue l2 μ with
  | none => rw [c1] at hk; cases hk
  | some q1 =>
    obtain ⟨v2, m3⟩ := q1
    rw [c1] at hk
    dsimp only at hk
    refine zm_c h rfl rfl rfl rfl rfl rfl ((mT_isValue (q := 1) (Nat.le_refl _) c1 h (fun w h => ?_)).deep (by omega))
    by_cases q4 : v2 = 0 ∨ v2 = 1
    case neg => rw [if_neg q4] at hk; cases hk
    rw [if_pos q4] at hk
    cases hk
    exact zi_rz rfl rfl q4 (k w h)
def mF_areParts_144 (l1 : Int32) (l2 : Int32) (l3 : Int32) (l4 : Int32) (μ : mS) : Option (Int32 × mS) :=
  some ((1 : Int32), μ)
theorem mT_areParts_144 {S : zS} {q : Nat} {w w0 : zW} {Post : Option Value → zW → Prop} {m0 : Nat} {μ μ2 : mS} {v : Int32} {l1 : Int32} {l2 : Int32} {l3 : Int32} {l4 : Int32} (hq : 2 ≤ q) (hk : mF_areParts_144 l1 l2 l3 l4 μ = some (v, μ2)) (h : mW m0 w0 μ w) (k : ∀ w2, mW m0 w0 μ2 w2 → Post (some (.int v)) w2) : zOk S (q + 1) 73 144 [(0, .ref m0), (1, .int l1), (2, .int l2), (3, .int l3), (4, .int l4)] [] w Post := by
  unfold mF_areParts_144 at hk
  refine zi_a (st' := .int 1 :: _) rfl rfl rfl ?_
  refine zi_go rfl rfl rfl (tgt := 149) (by decide) ?_
  cases hk
  exact zi_rz rfl rfl (Or.inr rfl) (k w h)
def mF_areParts (a1 : Int32) (a2 : Int32) (a3 : Int32) (a4 : Int32) (μ : mS) : Option (Int32 × mS) :=
  if (a1).toInt < 10 ∨ 21 < (a1).toInt then (if a1 < 0 then (some ((0 : Int32), μ)) else (if (5 : Int32) < a1 then (some ((0 : Int32), μ)) else (match mF_isValue a2 μ with | none => none | some (v5, m6) => if v5 = 0 then (some ((0 : Int32), m6)) else (match mF_isValue a3 m6 with | none => none | some (v9, m10) => if v9 = 0 then (some ((0 : Int32), m10)) else (some ((1 : Int32), m10)))))) else if a1 = 10 then (mF_areParts_64  a1 a2 a3 a4 μ) else if a1 = 11 then (mF_areParts_86  a1 a2 a3 a4 μ) else if a1 = 12 then (mF_areParts_86  a1 a2 a3 a4 μ) else if a1 = 13 then (mF_areParts_107  a1 a2 a3 a4 μ) else if a1 = 14 then (mF_areParts_107  a1 a2 a3 a4 μ) else if a1 = 15 then (mF_areParts_64  a1 a2 a3 a4 μ) else if a1 = 16 then (match mF_isValue a2 μ with | none => none | some (v20, m21) => if v20 = 0 then (some ((0 : Int32), m21)) else (match mF_isStatement a3 m21 with | none => none | some (v24, m25) => if v24 = 0 then (some ((0 : Int32), m25)) else (if a4 = (-1 : Int32) then (mF_areParts_144  a1 a2 a3 a4 m25) else (match mF_isStatement a4 m25 with | none => none | some (v29, m30) => if v29 = 0 then (some ((0 : Int32), m30)) else (mF_areParts_144  a1 a2 a3 a4 m30))))) else if a1 = 17 then (match mF_isValue a2 μ with | none => none | some (v34, m35) => if v34 = 0 then (some ((0 : Int32), m35)) else (match mF_isStatement a3 m35 with | none => none | some (v38, m39) => if v38 = 0 then (some ((0 : Int32), m39)) else (some ((1 : Int32), m39)))) else if a1 = 18 then (match mF_isValue a2 μ with | none => none | some (v43, m44) => if v43 = 0 then (some ((0 : Int32), m44)) else (match mF_isStatement a3 m44 with | none => none | some (v47, m48) => if v47 = 0 then (some ((0 : Int32), m48)) else (match mF_isStatement a4 m48 with | none => none | some (v51, m52) => if v51 = 0 then (some ((0 : Int32), m52)) else (some ((1 : Int32), m52))))) else if a1 = 19 then (match mF_isPlace a2 μ with | none => none | some (v56, m57) => if v56 = 0 then (some ((0 : Int32), m57)) else (match mF_isValue a3 m57 with | none => none | some (v60, m61) => if v60 = 0 then (some ((0 : Int32), m61)) else (match mF_isValue a4 m61 with | none => none | some (v64, m65) => if v64 = 0 then (some ((0 : Int32), m65)) else (some ((1 : Int32), m65))))) else if a1 = 20 then (match mF_isPlace a2 μ with | none => none | some (v69, m70) => if v69 = 0 ∨ v69 = 1 then some (v69, m70) else none) else if a1 = 21 then (match mF_isStatement a2 μ with | none => none | some (v74, m75) => if v74 = 0 then (some ((0 : Int32), m75)) else (match mF_isStatement a3 m75 with | none => none | some (v78, m79) => if v78 = 0 then (some ((0 : Int32), m79)) else (if zix a3 200 then if (m79.1 8 (a3).toNatClampNeg) = 0 then (some ((0 : Int32), m79)) else (some ((1 : Int32), m79)) else none))) else none
theorem mT_areParts {S : zS} {q : Nat} {w w0 : zW} {Post : Option Value → zW → Prop} {m0 : Nat} {μ μ2 : mS} {v : Int32} {a1 : Int32} {a2 : Int32} {a3 : Int32} {a4 : Int32} (hq : 2 ≤ q) (hk : mF_areParts a1 a2 a3 a4 μ = some (v, μ2)) (h : mW m0 w0 μ w) (k : ∀ w2, mW m0 w0 μ2 w2 → Post (some (.int v)) w2) : zOk S (q + 1) 73 0 (lv_args 0 [.ref m0, .int a1, .int a2, .int a3, .int a4]) [] w Post := by
  unfold mF_areParts at hk
  refine zi_l rfl rfl rfl ?_
  by_cases c1 : (a1).toInt < 10 ∨ 21 < (a1).toInt
  · rw [if_pos c1] at hk
    refine zi_sd rfl c1 (tgt := 269) (by decide) ?_
    refine zi_l rfl rfl rfl ?_
    refine zi_ifd rfl rfl rfl (tgt := 298) (by decide) (fun c2 => ?_) (fun c2 => ?_)
    · rw [if_pos c2] at hk
      refine zi_a (st' := .int 0 :: _) rfl rfl rfl ?_
      cases hk
      exact zi_rz rfl rfl (Or.inl rfl) (k w h)
    · rw [if_neg c2] at hk
      refine zi_l rfl rfl rfl ?_
      refine zi_a (st' := .int 5 :: _) rfl rfl rfl ?_
      refine zi_ifd rfl rfl rfl (tgt := 298) (by decide) (fun c3 => ?_) (fun c3 => ?_)
      · rw [if_pos c3] at hk
        refine zi_a (st' := .int 0 :: _) rfl rfl rfl ?_
        cases hk
        exact zi_rz rfl rfl (Or.inl rfl) (k w h)
      · rw [if_neg c3] at hk
        refine zi_l rfl rfl rfl ?_
        refine zi_l rfl rfl rfl ?_
        cases c4 : mF_isValue a2 μ with
        | none => rw [c4] at hk; cases hk
        | some q1 =>
          obtain ⟨v5, m6⟩ := q1
          rw [c4] at hk
          dsimp only at hk
          refine zm_c h rfl rfl rfl rfl rfl rfl ((mT_isValue (q := 1) (Nat.le_refl _) c4 h (fun w h => ?_)).deep (by omega))
          refine zi_ifd rfl rfl rfl (tgt := 298) (by decide) (fun c7 => ?_) (fun c7 => ?_)
          · rw [if_pos c7] at hk
            refine zi_a (st' := .int 0 :: _) rfl rfl rfl ?_
            cases hk
            exact zi_rz rfl rfl (Or.inl rfl) (k w h)
          · rw [if_neg c7] at hk
            refine zi_l rfl rfl rfl ?_
            refine zi_l rfl rfl rfl ?_
            cases c8 : mF_isValue a3 m6 with
            | none => rw [c8] at hk; cases hk
            | some q1 =>
              obtain ⟨v9, m10⟩ := q1
              rw [c8] at hk
              dsimp only at hk
              refine zm_c h rfl rfl rfl rfl rfl rfl ((mT_isValue (q := 1) (Nat.le_refl _) c8 h (fun w h => ?_)).deep (by omega))
              refine zi_ifd rfl rfl rfl (tgt := 298) (by decide) (fun c11 => ?_) (fun c11 => ?_)
              · rw [if_pos c11] at hk
                refine zi_a (st' := .int 0 :: _) rfl rfl rfl ?_
                cases hk
                exact zi_rz rfl rfl (Or.inl rfl) (k w h)
              · rw [if_neg c11] at hk
                refine zi_a (st' := .int 1 :: _) rfl rfl rfl ?_
                refine zi_go rfl rfl rfl (tgt := 299) (by decide) ?_
                cases hk
                exact zi_rz rfl rfl (Or.inr rfl) (k w h)
  rw [if_neg c1] at hk
  by_cases e12 : a1 = 10
  · rw [if_pos e12] at hk
    refine zi_si rfl c1 (off := 63) (by rw [e12]; rfl) (tgt := 64) (by decide) ?_
    exact mT_areParts_64 hq hk h k
  rw [if_neg e12] at hk
  by_cases e13 : a1 = 11
  · rw [if_pos e13] at hk
    refine zi_si rfl c1 (off := 85) (by rw [e13]; rfl) (tgt := 86) (by decide) ?_
    exact mT_areParts_86 hq hk h k
  rw [if_neg e13] at hk
  by_cases e14 : a1 = 12
  · rw [if_pos e14] at hk
    refine zi_si rfl c1 (off := 85) (by rw [e14]; rfl) (tgt := 86) (by decide) ?_
    exact mT_areParts_86 hq hk h k
  rw [if_neg e14] at hk
  by_cases e15 : a1 = 13
  · rw [if_pos e15] at hk
    refine zi_si rfl c1 (off := 106) (by rw [e15]; rfl) (tgt := 107) (by decide) ?_
    exact mT_areParts_107 hq hk h k
  rw [if_neg e15] at hk
  by_cases e16 : a1 = 14
  · rw [if_pos e16] at hk
    refine zi_si rfl c1 (off := 106) (by rw [e16]; rfl) (tgt := 107) (by decide) ?_
    exact mT_areParts_107 hq hk h k
  rw [if_neg e16] at hk
  by_cases e17 : a1 = 15
  · rw [if_pos e17] at hk
    refine zi_si rfl c1 (off := 63) (by rw [e17]; rfl) (tgt := 64) (by decide) ?_
    exact mT_areParts_64 hq hk h k
  rw [if_neg e17] at hk
  by_cases e18 : a1 = 16
  · rw [if_pos e18] at hk
    refine zi_si rfl c1 (off := 112) (by rw [e18]; rfl) (tgt := 113) (by decide) ?_
    refine zi_l rfl rfl rfl ?_
    refine zi_l rfl rfl rfl ?_
    cases c19 : mF_isValue a2 μ with
    | none => rw [c19] at hk; cases hk
    | some q1 =>
      obtain ⟨v20, m21⟩ := q1
      rw [c19] at hk
      dsimp only at hk
      refine zm_c h rfl rfl rfl rfl rfl rfl ((mT_isValue (q := 1) (Nat.le_refl _) c19 h (fun w h => ?_)).deep (by omega))
      refine zi_ifd rfl rfl rfl (tgt := 148) (by decide) (fun c22 => ?_) (fun c22 => ?_)
      · rw [if_pos c22] at hk
        refine zi_a (st' := .int 0 :: _) rfl rfl rfl ?_
        cases hk
        exact zi_rz rfl rfl (Or.inl rfl) (k w h)
      · rw [if_neg c22] at hk
        refine zi_l rfl rfl rfl ?_
        refine zi_l rfl rfl rfl ?_
        cases c23 : mF_isStatement a3 m21 with
        | none => rw [c23] at hk; cases hk
        | some q1 =>
          obtain ⟨v24, m25⟩ := q1
          rw [c23] at hk
          dsimp only at hk
          refine zm_c h rfl rfl rfl rfl rfl rfl ((mT_isStatement (q := 1) (Nat.le_refl _) c23 h (fun w h => ?_)).deep (by omega))
          refine zi_ifd rfl rfl rfl (tgt := 148) (by decide) (fun c26 => ?_) (fun c26 => ?_)
          · rw [if_pos c26] at hk
            refine zi_a (st' := .int 0 :: _) rfl rfl rfl ?_
            cases hk
            exact zi_rz rfl rfl (Or.inl rfl) (k w h)
          · rw [if_neg c26] at hk
            refine zi_l rfl rfl rfl ?_
            refine zi_a (st' := .int (-1) :: _) rfl rfl rfl ?_
            refine zi_ifd rfl rfl rfl (tgt := 144) (by decide) (fun c27 => ?_) (fun c27 => ?_)
            · rw [if_pos c27] at hk
              exact mT_areParts_144 hq hk h k
            · rw [if_neg c27] at hk
              refine zi_l rfl rfl rfl ?_
              refine zi_l rfl rfl rfl ?_
              cases c28 : mF_isStatement a4 m25 with
              | none => rw [c28] at hk; cases hk
              | some q1 =>
                obtain ⟨v29, m30⟩ := q1
                rw [c28] at hk
                dsimp only at hk
                refine zm_c h rfl rfl rfl rfl rfl rfl ((mT_isStatement (q := 1) (Nat.le_refl _) c28 h (fun w h => ?_)).deep (by omega))
                refine zi_ifd rfl rfl rfl (tgt := 148) (by decide) (fun c31 => ?_) (fun c31 => ?_)
                · rw [if_pos c31] at hk
                  refine zi_a (st' := .int 0 :: _) rfl rfl rfl ?_
                  cases hk
                  exact zi_rz rfl rfl (Or.inl rfl) (k w h)
                · rw [if_neg c31] at hk
                  exact mT_areParts_144 hq hk h k
  rw [if_neg e18] at hk
  by_cases e32 : a1 = 17
  · rw [if_pos e32] at hk
    refine zi_si rfl c1 (off := 149) (by rw [e32]; rfl) (tgt := 150) (by decide) ?_
    refine zi_l rfl rfl rfl ?_
    refine zi_l rfl rfl rfl ?_
    cases c33 : mF_isValue a2 μ with
    | none => rw [c33] at hk; cases hk
    | some q1 =>
      obtain ⟨v34, m35⟩ := q1
      rw [c33] at hk
      dsimp only at hk
      refine zm_c h rfl rfl rfl rfl rfl rfl ((mT_isValue (q := 1) (Nat.le_refl _) c33 h (fun w h => ?_)).deep (by omega))
      refine zi_ifd rfl rfl rfl (tgt := 170) (by decide) (fun c36 => ?_) (fun c36 => ?_)
      · rw [if_pos c36] at hk
        refine zi_a (st' := .int 0 :: _) rfl rfl rfl ?_
        cases hk
        exact zi_rz rfl rfl (Or.inl rfl) (k w h)
      · rw [if_neg c36] at hk
        refine zi_l rfl rfl rfl ?_
        refine zi_l rfl rfl rfl ?_
        cases c37 : mF_isStatement a3 m35 with
        | none => rw [c37] at hk; cases hk
        | some q1 =>
          obtain ⟨v38, m39⟩ := q1
          rw [c37] at hk
          dsimp only at hk
          refine zm_c h rfl rfl rfl rfl rfl rfl ((mT_isStatement (q := 1) (Nat.le_refl _) c37 h (fun w h => ?_)).deep (by omega))
          refine zi_ifd rfl rfl rfl (tgt := 170) (by decide) (fun c40 => ?_) (fun c40 => ?_)
          · rw [if_pos c40] at hk
            refine zi_a (st' := .int 0 :: _) rfl rfl rfl ?_
            cases hk
            exact zi_rz rfl rfl (Or.inl rfl) (k w h)
          · rw [if_neg c40] at hk
            refine zi_a (st' := .int 1 :: _) rfl rfl rfl ?_
            refine zi_go rfl rfl rfl (tgt := 171) (by decide) ?_
            cases hk
            exact zi_rz rfl rfl (Or.inr rfl) (k w h)
  rw [if_neg e32] at hk
  by_cases e41 : a1 = 18
  · rw [if_pos e41] at hk
    refine zi_si rfl c1 (off := 171) (by rw [e41]; rfl) (tgt := 172) (by decide) ?_
    refine zi_l rfl rfl rfl ?_
    refine zi_l rfl rfl rfl ?_
    cases c42 : mF_isValue a2 μ with
    | none => rw [c42] at hk; cases hk
    | some q1 =>
      obtain ⟨v43, m44⟩ := q1
      rw [c42] at hk
      dsimp only at hk
      refine zm_c h rfl rfl rfl rfl rfl rfl ((mT_isValue (q := 1) (Nat.le_refl _) c42 h (fun w h => ?_)).deep (by omega))
      refine zi_ifd rfl rfl rfl (tgt := 201) (by decide) (fun c45 => ?_) (fun c45 => ?_)
      · rw [if_pos c45] at hk
        refine zi_a (st' := .int 0 :: _) rfl rfl rfl ?_
        cases hk
        exact zi_rz rfl rfl (Or.inl rfl) (k w h)
      · rw [if_neg c45] at hk
        refine zi_l rfl rfl rfl ?_
        refine zi_l rfl rfl rfl ?_
        cases c46 : mF_isStatement a3 m44 with
        | none => rw [c46] at hk; cases hk
        | some q1 =>
          obtain ⟨v47, m48⟩ := q1
          rw [c46] at hk
          dsimp only at hk
          refine zm_c h rfl rfl rfl rfl rfl rfl ((mT_isStatement (q := 1) (Nat.le_refl _) c46 h (fun w h => ?_)).deep (by omega))
          refine zi_ifd rfl rfl rfl (tgt := 201) (by decide) (fun c49 => ?_) (fun c49 => ?_)
          · rw [if_pos c49] at hk
            refine zi_a (st' := .int 0 :: _) rfl rfl rfl ?_
            cases hk
            exact zi_rz rfl rfl (Or.inl rfl) (k w h)
          · rw [if_neg c49] at hk
            refine zi_l rfl rfl rfl ?_
            refine zi_l rfl rfl rfl ?_
            cases c50 : mF_isStatement a4 m48 with
            | none => rw [c50] at hk; cases hk
            | some q1 =>
              obtain ⟨v51, m52⟩ := q1
              rw [c50] at hk
              dsimp only at hk
              refine zm_c h rfl rfl rfl rfl rfl rfl ((mT_isStatement (q := 1) (Nat.le_refl _) c50 h (fun w h => ?_)).deep (by omega))
              refine zi_ifd rfl rfl rfl (tgt := 201) (by decide) (fun c53 => ?_) (fun c53 => ?_)
              · rw [if_pos c53] at hk
                refine zi_a (st' := .int 0 :: _) rfl rfl rfl ?_
                cases hk
                exact zi_rz rfl rfl (Or.inl rfl) (k w h)
              · rw [if_neg c53] at hk
                refine zi_a (st' := .int 1 :: _) rfl rfl rfl ?_
                refine zi_go rfl rfl rfl (tgt := 202) (by decide) ?_
                cases hk
                exact zi_rz rfl rfl (Or.inr rfl) (k w h)
  rw [if_neg e41] at hk
  by_cases e54 : a1 = 19
  · rw [if_pos e54] at hk
    refine zi_si rfl c1 (off := 202) (by rw [e54]; rfl) (tgt := 203) (by decide) ?_
    refine zi_l rfl rfl rfl ?_
    cases c55 : mF_isPlace a2 μ with
    | none => rw [c55] at hk; cases hk
    | some q1 =>
      obtain ⟨v56, m57⟩ := q1
      rw [c55] at hk
      dsimp only at hk
      refine zi_s rfl rfl rfl rfl rfl ((mT_isPlace (q := 0) (Nat.le_refl _) c55 h (fun w h => ?_)).deep (by omega))
      refine zi_ifd rfl rfl rfl (tgt := 231) (by decide) (fun c58 => ?_) (fun c58 => ?_)
      · rw [if_pos c58] at hk
        refine zi_a (st' := .int 0 :: _) rfl rfl rfl ?_
        cases hk
        exact zi_rz rfl rfl (Or.inl rfl) (k w h)
      · rw [if_neg c58] at hk
        refine zi_l rfl rfl rfl ?_
        refine zi_l rfl rfl rfl ?_
        cases c59 : mF_isValue a3 m57 with
        | none => rw [c59] at hk; cases hk
        | some q1 =>
          obtain ⟨v60, m61⟩ := q1
          rw [c59] at hk
          dsimp only at hk
          refine zm_c h rfl rfl rfl rfl rfl rfl ((mT_isValue (q := 1) (Nat.le_refl _) c59 h (fun w h => ?_)).deep (by omega))
          refine zi_ifd rfl rfl rfl (tgt := 231) (by decide) (fun c62 => ?_) (fun c62 => ?_)
          · rw [if_pos c62] at hk
            refine zi_a (st' := .int 0 :: _) rfl rfl rfl ?_
            cases hk
            exact zi_rz rfl rfl (Or.inl rfl) (k w h)
          · rw [if_neg c62] at hk
            refine zi_l rfl rfl rfl ?_
            refine zi_l rfl rfl rfl ?_
            cases c63 : mF_isValue a4 m61 with
            | none => rw [c63] at hk; cases hk
            | some q1 =>
              obtain ⟨v64, m65⟩ := q1
              rw [c63] at hk
              dsimp only at hk
              refine zm_c h rfl rfl rfl rfl rfl rfl ((mT_isValue (q := 1) (Nat.le_refl _) c63 h (fun w h => ?_)).deep (by omega))
              refine zi_ifd rfl rfl rfl (tgt := 231) (by decide) (fun c66 => ?_) (fun c66 => ?_)
              · rw [if_pos c66] at hk
                refine zi_a (st' := .int 0 :: _) rfl rfl rfl ?_
                cases hk
                exact zi_rz rfl rfl (Or.inl rfl) (k w h)
              · rw [if_neg c66] at hk
                refine zi_a (st' := .int 1 :: _) rfl rfl rfl ?_
                refine zi_go rfl rfl rfl (tgt := 232) (by decide) ?_
                cases hk
                exact zi_rz rfl rfl (Or.inr rfl) (k w h)
  rw [if_neg e54] at hk
  by_cases e67 : a1 = 20
  · rw [if_pos e67] at hk
    refine zi_si rfl c1 (off := 232) (by rw [e67]; rfl) (tgt := 233) (by decide) ?_
    refine zi_l rfl rfl rfl ?_
    cases c68 : mF_isPlace a2 μ with
    | none => rw [c68] at hk; cases hk
    | some q1 =>
      obtain ⟨v69, m70⟩ := q1
      rw [c68] at hk
      dsimp only at hk
      refine zi_s rfl rfl rfl rfl rfl ((mT_isPlace (q := 0) (Nat.le_refl _) c68 h (fun w h => ?_)).deep (by omega))
      by_cases q71 : v69 = 0 ∨ v69 = 1
      case neg => rw [if_neg q71] at hk; cases hk
      rw [if_pos q71] at hk
      cases hk
      exact zi_rz rfl rfl q71 (k w h)
  rw [if_neg e67] at hk
  by_cases e72 : a1 = 21
  · rw [if_pos e72] at hk
    refine zi_si rfl c1 (off := 237) (by rw [e72]; rfl) (tgt := 238) (by decide) ?_
    refine zi_l rfl rfl rfl ?_
    refine zi_l rfl rfl rfl ?_
    cases c73 : mF_isStatement a2 μ with
    | none => rw [c73] at hk; cases hk
    | some q1 =>
      obtain ⟨v74, m75⟩ := q1
      rw [c73] at hk
      dsimp only at hk
      refine zm_c h rfl rfl rfl rfl rfl rfl ((mT_isStatement (q := 1) (Nat.le_refl _) c73 h (fun w h => ?_)).deep (by omega))
      refine zi_ifd rfl rfl rfl (tgt := 267) (by decide) (fun c76 => ?_) (fun c76 => ?_)
      · rw [if_pos c76] at hk
        refine zi_a (st' := .int 0 :: _) rfl rfl rfl ?_
        cases hk
        exact zi_rz rfl rfl (Or.inl rfl) (k w h)
      · rw [if_neg c76] at hk
        refine zi_l rfl rfl rfl ?_
        refine zi_l rfl rfl rfl ?_
        cases c77 : mF_isStatement a3 m75 with
        | none => rw [c77] at hk; cases hk
        | some q1 =>
          obtain ⟨v78, m79⟩ := q1
          rw [c77] at hk
          dsimp only at hk
          refine zm_c h rfl rfl rfl rfl rfl rfl ((mT_isStatement (q := 1) (Nat.le_refl _) c77 h (fun w h => ?_)).deep (by omega))
          refine zi_ifd rfl rfl rfl (tgt := 267) (by decide) (fun c80 => ?_) (fun c80 => ?_)
          · rw [if_pos c80] at hk
            refine zi_a (st' := .int 0 :: _) rfl rfl rfl ?_
            cases hk
            exact zi_rz rfl rfl (Or.inl rfl) (k w h)
          · rw [if_neg c80] at hk
            refine zi_l rfl rfl rfl ?_
            refine zm_ga (f := 8) h rfl rfl (by decide) ?_
            refine zi_l rfl rfl rfl ?_
            by_cases q81 : zix a3 200
            case neg => rw [if_neg q81] at hk; cases hk
            rw [if_pos q81] at hk
            refine zm_lz (f := 8) h rfl (by decide) rfl q81 ?_
            refine zi_ifd rfl rfl rfl (tgt := 267) (by decide) (fun c82 => ?_) (fun c82 => ?_)
            · rw [if_pos c82] at hk
              refine zi_a (st' := .int 0 :: _) rfl rfl rfl ?_
              cases hk
              exact zi_rz rfl rfl (Or.inl rfl) (k w h)
            · rw [if_neg c82] at hk
              refine zi_a (st' := .int 1 :: _) rfl rfl rfl ?_
              refine zi_go rfl rfl rfl (tgt := 268) (by decide) ?_
              cases hk
              exact zi_rz rfl rfl (Or.inr rfl) (k w h)
  rw [if_neg e72] at hk
  cases hk
def mF_node_258 (l1 : Int32) (l2 : Int32) (l3 : Int32) (l4 : Int32) (l5 : Int32) (l6 : Int32) (l7 : Int32) (l8 : Int32) (l9 : Int32) (l10 : Int32) (l11 : Int32) (l12 : Int32) (s1 : Int32) (s2 : Int32) (s3 : Int32) (s4 : Int32) (μ : mS) : Option (Int32 × mS) :=
  match mF_put s1 s2 s3 s4 (0 : Int64) l11 l12 μ with | none => none | some (v2, m3) => some (v2, m3)
theorem mT_node_258 {S : zS} {q : Nat} {w w0 : zW} {Post : Option Value → zW → Prop} {m0 : Nat} {μ μ2 : mS} {v : Int32} {l1 : Int32} {l2 : Int32} {l3 : Int32} {l4 : Int32} {l5 : Int32} {l6 : Int32} {l7 : Int32} {l8 : Int32} {l9 : Int32} {l10 : Int32} {l11 : Int32} {l12 : Int32} {s1 : Int32} {s2 : Int32} {s3 : Int32} {s4 : Int32} (hq : 3 ≤ q) (hk : mF_node_258 l1 l2 l3 l4 l5 l6 l7 l8 l9 l10 l11 l12 s1 s2 s3 s4 μ = some (v, μ2)) (h : mW m0 w0 μ w) (k : ∀ w2, mW m0 w0 μ2 w2 → Post (some (.int v)) w2) : zOk S (q + 1) 72 258 [(0, .ref m0), (1, .int l1), (2, .int l2), (3, .int l3), (4, .int l4), (5, .int l5), (6, .int l6), (7, .int l7), (8, .int l8), (9, .int l9), (10, .int l10), (11, .int l11), (12, .int l12)] [.int s4, .int s3, .int s2, .int s1, .ref m0] w Post := by
  unfold mF_node_258 at hk
  refine zi_a (st' := .long 0 :: _) rfl rfl rfl ?_
  refine zi_l rfl rfl rfl ?_
  refine zi_l rfl rfl rfl ?_
  cases c1 : mF_put s1 s2 s3 s4 (0 : Int64) l11 l12 μ with
  | none => rw [c1] at hk; cases hk
  | some q1 =>
    obtain ⟨v2, m3⟩ := q1
    rw [c1] at hk
    dsimp only at hk
    refine zm_c h rfl rfl rfl rfl rfl rfl ((mT_put (q := 0) (Nat.le_refl _) c1 h (fun w h => ?_)).deep (by omega))
    cases hk
    exact zi_ri rfl rfl (k w h)
def mF_node_247 (l1 : Int32) (l2 : Int32) (l3 : Int32) (l4 : Int32) (l5 : Int32) (l6 : Int32) (l7 : Int32) (l8 : Int32) (l9 : Int32) (l10 : Int32) (l11 : Int32) (l12 : Int32) (s1 : Int32) (s2 : Int32) (s3 : Int32) (μ : mS) : Option (Int32 × mS) :=
  if l7 = 0 then (mF_node_258  l1 l2 l3 l4 l5 l6 l7 l8 l9 l10 l11 l12 s1 s2 s3 (-1 : Int32) μ) else (mF_node_258  l1 l2 l3 l4 l5 l6 l7 l8 l9 l10 l11 l12 s1 s2 s3 l4 μ)
theorem mT_node_247 {S : zS} {q : Nat} {w w0 : zW} {Post : Option Value → zW → Prop} {m0 : Nat} {μ μ2 : mS} {v : Int32} {l1 : Int32} {l2 : Int32} {l3 : Int32} {l4 : Int32} {l5 : Int32} {l6 : Int32} {l7 : Int32} {l8 : Int32} {l9 : Int32} {l10 : Int32} {l11 : Int32} {l12 : Int32} {s1 : Int32} {s2 : Int32} {s3 : Int32} (hq : 3 ≤ q) (hk : mF_node_247 l1 l2 l3 l4 l5 l6 l7 l8 l9 l10 l11 l12 s1 s2 s3 μ = some (v, μ2)) (h : mW m0 w0 μ w) (k : ∀ w2, mW m0 w0 μ2 w2 → Post (some (.int v)) w2) : zOk S (q + 1) 72 247 [(0, .ref m0), (1, .int l1), (2, .int l2), (3, .int l3), (4, .int l4), (5, .int l5), (6, .int l6), (7, .int l7), (8, .int l8), (9, .int l9), (10, .int l10), (11, .int l11), (12, .int l12)] [.int s3, .int s2, .int s1, .ref m0] w Post := by
  unfold mF_node_247 at hk
  refine zi_l rfl rfl rfl ?_
  refine zi_ifd rfl rfl rfl (tgt := 257) (by decide) (fun c1 => ?_) (fun c1 => ?_)
  · rw [if_pos c1] at hk
    refine zi_a (st' := .int (-1) :: _) rfl rfl rfl ?_
    exact mT_node_258 hq hk h k
  · rw [if_neg c1] at hk
    refine zi_l rfl rfl rfl ?_
    refine zi_go rfl rfl rfl (tgt := 258) (by decide) ?_
    exact mT_node_258 hq hk h k
def mF_node_202 (l1 : Int32) (l2 : Int32) (l3 : Int32) (l4 : Int32) (l5 : Int32) (l6 : Int32) (l7 : Int32) (l8 : Int32) (l9 : Int32) (l10 : Int32) (l11 : Int32) (s0 : Int32) (μ : mS) : Option (Int32 × mS) :=
  if (30 : Int32) < l11 then (some ((-1 : Int32), μ)) else (if s0 ≤ (200 : Int32) then (if ¬ (μ.1 0 0) = (200 : Int32) then (if l6 = 0 then (mF_node_247  l1 l2 l3 l4 l5 l6 l7 l8 l9 l10 l11 s0 l1 l2 (-1 : Int32) μ) else (mF_node_247  l1 l2 l3 l4 l5 l6 l7 l8 l9 l10 l11 s0 l1 l2 l3 μ)) else (some ((-2 : Int32), μ))) else (some ((-1 : Int32), μ)))
theorem mT_node_202 {S : zS} {q : Nat} {w w0 : zW} {Post : Option Value → zW → Prop} {m0 : Nat} {μ μ2 : mS} {v : Int32} {l1 : Int32} {l2 : Int32} {l3 : Int32} {l4 : Int32} {l5 : Int32} {l6 : Int32} {l7 : Int32} {l8 : Int32} {l9 : Int32} {l10 : Int32} {l11 : Int32} {s0 : Int32} (hq : 3 ≤ q) (hk : mF_node_202 l1 l2 l3 l4 l5 l6 l7 l8 l9 l10 l11 s0 μ = some (v, μ2)) (h : mW m0 w0 μ w) (k : ∀ w2, mW m0 w0 μ2 w2 → Post (some (.int v)) w2) : zOk S (q + 1) 72 202 [(0, .ref m0), (1, .int l1), (2, .int l2), (3, .int l3), (4, .int l4), (5, .int l5), (6, .int l6), (7, .int l7), (8, .int l8), (9, .int l9), (10, .int l10), (11, .int l11)] [.int s0] w Post := by
  unfold mF_node_202 at hk
  refine zi_l rfl rfl rfl ?_
  refine zi_l rfl rfl rfl ?_
  refine zi_a (st' := .int 30 :: _) rfl rfl rfl ?_
  refine zi_ifd rfl rfl rfl (tgt := 219) (by decide) (fun c1 => ?_) (fun c1 => ?_)
  · rw [if_pos c1] at hk
    refine zi_a (st' := .int (-1) :: _) rfl rfl rfl ?_
    cases hk
    exact zi_ri rfl rfl (k w h)
  · rw [if_neg c1] at hk
    refine zi_l rfl rfl rfl ?_
    refine zi_a (st' := .int 200 :: _) rfl rfl rfl ?_
    refine zi_ifd rfl rfl rfl (tgt := 221) (by decide) (fun c2 => ?_) (fun c2 => ?_)
    · rw [if_pos c2] at hk
      refine zi_l rfl rfl rfl ?_
      refine zm_g h rfl rfl rfl rfl ?_
      refine zi_a (st' := .int 200 :: _) rfl rfl rfl ?_
      refine zi_ifd rfl rfl rfl (tgt := 234) (by decide) (fun c3 => ?_) (fun c3 => ?_)
      · rw [if_pos c3] at hk
        refine zi_l rfl rfl rfl ?_
        refine zi_l rfl rfl rfl ?_
        refine zi_l rfl rfl rfl ?_
        refine zi_l rfl rfl rfl ?_
        refine zi_ifd rfl rfl rfl (tgt := 246) (by decide) (fun c4 => ?_) (fun c4 => ?_)
        · rw [if_pos c4] at hk
          refine zi_a (st' := .int (-1) :: _) rfl rfl rfl ?_
          exact mT_node_247 hq hk h k
        · rw [if_neg c4] at hk
          refine zi_l rfl rfl rfl ?_
          refine zi_go rfl rfl rfl (tgt := 247) (by decide) ?_
          exact mT_node_247 hq hk h k
      · rw [if_neg c3] at hk
        refine zi_a (st' := .int (-2) :: _) rfl rfl rfl ?_
        cases hk
        exact zi_ri rfl rfl (k w h)
    · rw [if_neg c2] at hk
      refine zi_a (st' := .int (-1) :: _) rfl rfl rfl ?_
      cases hk
      exact zi_ri rfl rfl (k w h)
def mF_node_175 (l1 : Int32) (l2 : Int32) (l3 : Int32) (l4 : Int32) (l5 : Int32) (l6 : Int32) (l7 : Int32) (l8 : Int32) (l9 : Int32) (l10 : Int32) (l11 : Int32) (s0 : Int32) (s1 : Int32) (μ : mS) : Option (Int32 × mS) :=
  if (5 : Int32) < l1 then (mF_node_202  l1 l2 l3 l4 l5 l6 l7 l8 l9 l10 (s0 + s1) (0 : Int32) μ) else (if zix l2 200 then if zix l3 200 then mF_node_202  l1 l2 l3 l4 l5 l6 l7 l8 l9 l10 (s0 + s1) (((1 : Int32) + (μ.1 7 (l2).toNatClampNeg)) + (μ.1 7 (l3).toNatClampNeg)) μ else none else none)
theorem mT_node_175 {S : zS} {q : Nat} {w w0 : zW} {Post : Option Value → zW → Prop} {m0 : Nat} {μ μ2 : mS} {v : Int32} {l1 : Int32} {l2 : Int32} {l3 : Int32} {l4 : Int32} {l5 : Int32} {l6 : Int32} {l7 : Int32} {l8 : Int32} {l9 : Int32} {l10 : Int32} {l11 : Int32} {s0 : Int32} {s1 : Int32} (hq : 3 ≤ q) (hk : mF_node_175 l1 l2 l3 l4 l5 l6 l7 l8 l9 l10 l11 s0 s1 μ = some (v, μ2)) (h : mW m0 w0 μ w) (k : ∀ w2, mW m0 w0 μ2 w2 → Post (some (.int v)) w2) : zOk S (q + 1) 72 175 [(0, .ref m0), (1, .int l1), (2, .int l2), (3, .int l3), (4, .int l4), (5, .int l5), (6, .int l6), (7, .int l7), (8, .int l8), (9, .int l9), (10, .int l10), (11, .int l11)] [.int s1, .int s0] w Post := by
  unfold mF_node_175 at hk
  refine zi_a rfl rfl rfl ?_
  refine zi_l rfl rfl rfl ?_
  refine zi_l rfl rfl rfl ?_
  refine zi_a (st' := .int 5 :: _) rfl rfl rfl ?_
  refine zi_ifd rfl rfl rfl (tgt := 201) (by decide) (fun c1 => ?_) (fun c1 => ?_)
  · rw [if_pos c1] at hk
    refine zi_a (st' := .int 0 :: _) rfl rfl rfl ?_
    exact mT_node_202 hq hk h k
  · rw [if_neg c1] at hk
    refine zi_a (st' := .int 1 :: _) rfl rfl rfl ?_
    refine zi_l rfl rfl rfl ?_
    refine zm_ga (f := 7) h rfl rfl (by decide) ?_
    refine zi_l rfl rfl rfl ?_
    by_cases q2 : zix l2 200
    case neg => rw [if_neg q2] at hk; cases hk
    rw [if_pos q2] at hk
    refine zm_ld (f := 7) h rfl (by decide) rfl q2 ?_
    refine zi_a rfl rfl rfl ?_
    refine zi_l rfl rfl rfl ?_
    refine zm_ga (f := 7) h rfl rfl (by decide) ?_
    refine zi_l rfl rfl rfl ?_
    by_cases q3 : zix l3 200
    case neg => rw [if_neg q3] at hk; cases hk
    rw [if_pos q3] at hk
    refine zm_ld (f := 7) h rfl (by decide) rfl q3 ?_
    refine zi_a rfl rfl rfl ?_
    refine zi_go rfl rfl rfl (tgt := 202) (by decide) ?_
    exact mT_node_202 hq hk h k
def mF_node_158 (l1 : Int32) (l2 : Int32) (l3 : Int32) (l4 : Int32) (l5 : Int32) (l6 : Int32) (l7 : Int32) (l8 : Int32) (l9 : Int32) (l10 : Int32) (s0 : Int32) (μ : mS) : Option (Int32 × mS) :=
  if s0 ≤ l10 then (mF_node_175  l1 l2 l3 l4 l5 l6 l7 l8 l9 l10 s0 (1 : Int32) l10 μ) else (mF_node_175  l1 l2 l3 l4 l5 l6 l7 l8 l9 l10 s0 (1 : Int32) s0 μ)
theorem mT_node_158 {S : zS} {q : Nat} {w w0 : zW} {Post : Option Value → zW → Prop} {m0 : Nat} {μ μ2 : mS} {v : Int32} {l1 : Int32} {l2 : Int32} {l3 : Int32} {l4 : Int32} {l5 : Int32} {l6 : Int32} {l7 : Int32} {l8 : Int32} {l9 : Int32} {l10 : Int32} {s0 : Int32} (hq : 3 ≤ q) (hk : mF_node_158 l1 l2 l3 l4 l5 l6 l7 l8 l9 l10 s0 μ = some (v, μ2)) (h : mW m0 w0 μ w) (k : ∀ w2, mW m0 w0 μ2 w2 → Post (some (.int v)) w2) : zOk S (q + 1) 72 158 [(0, .ref m0), (1, .int l1), (2, .int l2), (3, .int l3), (4, .int l4), (5, .int l5), (6, .int l6), (7, .int l7), (8, .int l8), (9, .int l9), (10, .int l10)] [.int s0] w Post := by
  unfold mF_node_158 at hk
  refine zi_l rfl rfl rfl ?_
  refine zi_a (st' := .int 1 :: _) rfl rfl rfl ?_
  refine zi_l rfl rfl rfl ?_
  refine zi_l rfl rfl rfl ?_
  refine zi_ifd rfl rfl rfl (tgt := 173) (by decide) (fun c1 => ?_) (fun c1 => ?_)
  · rw [if_pos c1] at hk
    refine zi_l rfl rfl rfl ?_
    exact mT_node_175 hq hk h k
  · rw [if_neg c1] at hk
    refine zi_l rfl rfl rfl ?_
    refine zi_go rfl rfl rfl (tgt := 175) (by decide) ?_
    exact mT_node_175 hq hk h k
def mF_node_142 (l1 : Int32) (l2 : Int32) (l3 : Int32) (l4 : Int32) (l5 : Int32) (l6 : Int32) (l7 : Int32) (l8 : Int32) (l9 : Int32) (s0 : Int32) (μ : mS) : Option (Int32 × mS) :=
  if l8 ≤ l9 then (mF_node_158  l1 l2 l3 l4 l5 l6 l7 l8 l9 s0 l9 μ) else (mF_node_158  l1 l2 l3 l4 l5 l6 l7 l8 l9 s0 l8 μ)
theorem mT_node_142 {S : zS} {q : Nat} {w w0 : zW} {Post : Option Value → zW → Prop} {m0 : Nat} {μ μ2 : mS} {v : Int32} {l1 : Int32} {l2 : Int32} {l3 : Int32} {l4 : Int32} {l5 : Int32} {l6 : Int32} {l7 : Int32} {l8 : Int32} {l9 : Int32} {s0 : Int32} (hq : 3 ≤ q) (hk : mF_node_142 l1 l2 l3 l4 l5 l6 l7 l8 l9 s0 μ = some (v, μ2)) (h : mW m0 w0 μ w) (k : ∀ w2, mW m0 w0 μ2 w2 → Post (some (.int v)) w2) : zOk S (q + 1) 72 142 [(0, .ref m0), (1, .int l1), (2, .int l2), (3, .int l3), (4, .int l4), (5, .int l5), (6, .int l6), (7, .int l7), (8, .int l8), (9, .int l9)] [.int s0] w Post := by
  unfold mF_node_142 at hk
  refine zi_l rfl rfl rfl ?_
  refine zi_l rfl rfl rfl ?_
  refine zi_l rfl rfl rfl ?_
  refine zi_ifd rfl rfl rfl (tgt := 156) (by decide) (fun c1 => ?_) (fun c1 => ?_)
  · rw [if_pos c1] at hk
    refine zi_l rfl rfl rfl ?_
    exact mT_node_158 hq hk h k
  · rw [if_neg c1] at hk
    refine zi_l rfl rfl rfl ?_
    refine zi_go rfl rfl rfl (tgt := 158) (by decide) ?_
    exact mT_node_158 hq hk h k
def mF_node_125 (l1 : Int32) (l2 : Int32) (l3 : Int32) (l4 : Int32) (l5 : Int32) (l6 : Int32) (l7 : Int32) (l8 : Int32) (s0 : Int32) (μ : mS) : Option (Int32 × mS) :=
  if l7 = 0 then (mF_node_142  l1 l2 l3 l4 l5 l6 l7 l8 s0 (0 : Int32) μ) else (match mF_depth l4 μ with | none => none | some (v3, m4) => mF_node_142  l1 l2 l3 l4 l5 l6 l7 l8 s0 v3 m4)
theorem mT_node_125 {S : zS} {q : Nat} {w w0 : zW} {Post : Option Value → zW → Prop} {m0 : Nat} {μ μ2 : mS} {v : Int32} {l1 : Int32} {l2 : Int32} {l3 : Int32} {l4 : Int32} {l5 : Int32} {l6 : Int32} {l7 : Int32} {l8 : Int32} {s0 : Int32} (hq : 3 ≤ q) (hk : mF_node_125 l1 l2 l3 l4 l5 l6 l7 l8 s0 μ = some (v, μ2)) (h : mW m0 w0 μ w) (k : ∀ w2, mW m0 w0 μ2 w2 → Post (some (.int v)) w2) : zOk S (q + 1) 72 125 [(0, .ref m0), (1, .int l1), (2, .int l2), (3, .int l3), (4, .int l4), (5, .int l5), (6, .int l6), (7, .int l7), (8, .int l8)] [.int s0] w Post := by
  unfold mF_node_125 at hk
  refine zi_l rfl rfl rfl ?_
  refine zi_l rfl rfl rfl ?_
  refine zi_ifd rfl rfl rfl (tgt := 141) (by decide) (fun c1 => ?_) (fun c1 => ?_)
  · rw [if_pos c1] at hk
    refine zi_a (st' := .int 0 :: _) rfl rfl rfl ?_
    exact mT_node_142 hq hk h k
  · rw [if_neg c1] at hk
    refine zi_l rfl rfl rfl ?_
    refine zi_l rfl rfl rfl ?_
    cases c2 : mF_depth l4 μ with
    | none => rw [c2] at hk; cases hk
    | some q1 =>
      obtain ⟨v3, m4⟩ := q1
      rw [c2] at hk
      dsimp only at hk
      refine zm_c h rfl rfl rfl rfl rfl rfl ((mT_depth (q := 0) (Nat.le_refl _) c2 h (fun w h => ?_)).deep (by omega))
      refine zi_go rfl rfl rfl (tgt := 142) (by decide) ?_
      exact mT_node_142 hq hk h k
def mF_node_109 (l1 : Int32) (l2 : Int32) (l3 : Int32) (l4 : Int32) (l5 : Int32) (l6 : Int32) (l7 : Int32) (s0 : Int32) (μ : mS) : Option (Int32 × mS) :=
  if l6 = 0 then (mF_node_125  l1 l2 l3 l4 l5 l6 l7 s0 (0 : Int32) μ) else (match mF_depth l3 μ with | none => none | some (v3, m4) => mF_node_125  l1 l2 l3 l4 l5 l6 l7 s0 v3 m4)
theorem mT_node_109 {S : zS} {q : Nat} {w w0 : zW} {Post : Option Value → zW → Prop} {m0 : Nat} {μ μ2 : mS} {v : Int32} {l1 : Int32} {l2 : Int32} {l3 : Int32} {l4 : Int32} {l5 : Int32} {l6 : Int32} {l7 : Int32} {s0 : Int32} (hq : 3 ≤ q) (hk : mF_node_109 l1 l2 l3 l4 l5 l6 l7 s0 μ = some (v, μ2)) (h : mW m0 w0 μ w) (k : ∀ w2, mW m0 w0 μ2 w2 → Post (some (.int v)) w2) : zOk S (q + 1) 72 109 [(0, .ref m0), (1, .int l1), (2, .int l2), (3, .int l3), (4, .int l4), (5, .int l5), (6, .int l6), (7, .int l7)] [.int s0] w Post := by
  unfold mF_node_109 at hk
  refine zi_l rfl rfl rfl ?_
  refine zi_l rfl rfl rfl ?_
  refine zi_ifd rfl rfl rfl (tgt := 124) (by decide) (fun c1 => ?_) (fun c1 => ?_)
  · rw [if_pos c1] at hk
    refine zi_a (st' := .int 0 :: _) rfl rfl rfl ?_
    exact mT_node_125 hq hk h k
  · rw [if_neg c1] at hk
    refine zi_l rfl rfl rfl ?_
    refine zi_l rfl rfl rfl ?_
    cases c2 : mF_depth l3 μ with
    | none => rw [c2] at hk; cases hk
    | some q1 =>
      obtain ⟨v3, m4⟩ := q1
      rw [c2] at hk
      dsimp only at hk
      refine zm_c h rfl rfl rfl rfl rfl rfl ((mT_depth (q := 0) (Nat.le_refl _) c2 h (fun w h => ?_)).deep (by omega))
      refine zi_go rfl rfl rfl (tgt := 125) (by decide) ?_
      exact mT_node_125 hq hk h k
def mF_node_93 (l1 : Int32) (l2 : Int32) (l3 : Int32) (l4 : Int32) (l5 : Int32) (l6 : Int32) (s0 : Int32) (μ : mS) : Option (Int32 × mS) :=
  if l5 = 0 then (match mF_depth l2 μ with | none => none | some (v3, m4) => mF_node_109  l1 l2 l3 l4 l5 l6 s0 v3 m4) else (mF_node_109  l1 l2 l3 l4 l5 l6 s0 (0 : Int32) μ)
theorem mT_node_93 {S : zS} {q : Nat} {w w0 : zW} {Post : Option Value → zW → Prop} {m0 : Nat} {μ μ2 : mS} {v : Int32} {l1 : Int32} {l2 : Int32} {l3 : Int32} {l4 : Int32} {l5 : Int32} {l6 : Int32} {s0 : Int32} (hq : 3 ≤ q) (hk : mF_node_93 l1 l2 l3 l4 l5 l6 s0 μ = some (v, μ2)) (h : mW m0 w0 μ w) (k : ∀ w2, mW m0 w0 μ2 w2 → Post (some (.int v)) w2) : zOk S (q + 1) 72 93 [(0, .ref m0), (1, .int l1), (2, .int l2), (3, .int l3), (4, .int l4), (5, .int l5), (6, .int l6)] [.int s0] w Post := by
  unfold mF_node_93 at hk
  refine zi_l rfl rfl rfl ?_
  refine zi_l rfl rfl rfl ?_
  refine zi_ifd rfl rfl rfl (tgt := 104) (by decide) (fun c1 => ?_) (fun c1 => ?_)
  · rw [if_pos c1] at hk
    refine zi_l rfl rfl rfl ?_
    refine zi_l rfl rfl rfl ?_
    cases c2 : mF_depth l2 μ with
    | none => rw [c2] at hk; cases hk
    | some q1 =>
      obtain ⟨v3, m4⟩ := q1
      rw [c2] at hk
      dsimp only at hk
      refine zm_c h rfl rfl rfl rfl rfl rfl ((mT_depth (q := 0) (Nat.le_refl _) c2 h (fun w h => ?_)).deep (by omega))
      exact mT_node_109 hq hk h k
  · rw [if_neg c1] at hk
    refine zi_a (st' := .int 0 :: _) rfl rfl rfl ?_
    refine zi_go rfl rfl rfl (tgt := 109) (by decide) ?_
    exact mT_node_109 hq hk h k
def mF_node_88 (l1 : Int32) (l2 : Int32) (l3 : Int32) (l4 : Int32) (l5 : Int32) (l6 : Int32) (μ : mS) : Option (Int32 × mS) :=
  mF_node_93  l1 l2 l3 l4 l5 l6 (1 : Int32) μ
theorem mT_node_88 {S : zS} {q : Nat} {w w0 : zW} {Post : Option Value → zW → Prop} {m0 : Nat} {μ μ2 : mS} {v : Int32} {l1 : Int32} {l2 : Int32} {l3 : Int32} {l4 : Int32} {l5 : Int32} {l6 : Int32} (hq : 3 ≤ q) (hk : mF_node_88 l1 l2 l3 l4 l5 l6 μ = some (v, μ2)) (h : mW m0 w0 μ w) (k : ∀ w2, mW m0 w0 μ2 w2 → Post (some (.int v)) w2) : zOk S (q + 1) 72 88 [(0, .ref m0), (1, .int l1), (2, .int l2), (3, .int l3), (4, .int l4), (5, .int l5), (6, .int l6)] [] w Post := by
  unfold mF_node_88 at hk
  refine zi_a (st' := .int 1 :: _) rfl rfl rfl ?_
  refine zi_go rfl rfl rfl (tgt := 93) (by decide) ?_
  exact mT_node_93 hq hk h k
def mF_node_68 (l1 : Int32) (l2 : Int32) (l3 : Int32) (l4 : Int32) (l5 : Int32) (s0 : Int32) (μ : mS) : Option (Int32 × mS) :=
  if l1 = (16 : Int32) then (mF_node_88  l1 l2 l3 l4 l5 s0 μ) else (if l1 = (18 : Int32) then (mF_node_88  l1 l2 l3 l4 l5 s0 μ) else (if ¬ l1 = (19 : Int32) then (mF_node_93  l1 l2 l3 l4 l5 s0 (0 : Int32) μ) else (mF_node_88  l1 l2 l3 l4 l5 s0 μ)))
theorem mT_node_68 {S : zS} {q : Nat} {w w0 : zW} {Post : Option Value → zW → Prop} {m0 : Nat} {μ μ2 : mS} {v : Int32} {l1 : Int32} {l2 : Int32} {l3 : Int32} {l4 : Int32} {l5 : Int32} {s0 : Int32} (hq : 3 ≤ q) (hk : mF_node_68 l1 l2 l3 l4 l5 s0 μ = some (v, μ2)) (h : mW m0 w0 μ w) (k : ∀ w2, mW m0 w0 μ2 w2 → Post (some (.int v)) w2) : zOk S (q + 1) 72 68 [(0, .ref m0), (1, .int l1), (2, .int l2), (3, .int l3), (4, .int l4), (5, .int l5)] [.int s0] w Post := by
  unfold mF_node_68 at hk
  refine zi_l rfl rfl rfl ?_
  refine zi_l rfl rfl rfl ?_
  refine zi_a (st' := .int 16 :: _) rfl rfl rfl ?_
  refine zi_ifd rfl rfl rfl (tgt := 88) (by decide) (fun c1 => ?_) (fun c1 => ?_)
  · rw [if_pos c1] at hk
    exact mT_node_88 hq hk h k
  · rw [if_neg c1] at hk
    refine zi_l rfl rfl rfl ?_
    refine zi_a (st' := .int 18 :: _) rfl rfl rfl ?_
    refine zi_ifd rfl rfl rfl (tgt := 88) (by decide) (fun c2 => ?_) (fun c2 => ?_)
    · rw [if_pos c2] at hk
      exact mT_node_88 hq hk h k
    · rw [if_neg c2] at hk
      refine zi_l rfl rfl rfl ?_
      refine zi_a (st' := .int 19 :: _) rfl rfl rfl ?_
      refine zi_ifd rfl rfl rfl (tgt := 92) (by decide) (fun c3 => ?_) (fun c3 => ?_)
      · rw [if_pos c3] at hk
        refine zi_a (st' := .int 0 :: _) rfl rfl rfl ?_
        exact mT_node_93 hq hk h k
      · rw [if_neg c3] at hk
        exact mT_node_88 hq hk h k
def mF_node_67 (l1 : Int32) (l2 : Int32) (l3 : Int32) (l4 : Int32) (l5 : Int32) (μ : mS) : Option (Int32 × mS) :=
  mF_node_68  l1 l2 l3 l4 l5 (0 : Int32) μ
theorem mT_node_67 {S : zS} {q : Nat} {w w0 : zW} {Post : Option Value → zW → Prop} {m0 : Nat} {μ μ2 : mS} {v : Int32} {l1 : Int32} {l2 : Int32} {l3 : Int32} {l4 : Int32} {l5 : Int32} (hq : 3 ≤ q) (hk : mF_node_67 l1 l2 l3 l4 l5 μ = some (v, μ2)) (h : mW m0 w0 μ w) (k : ∀ w2, mW m0 w0 μ2 w2 → Post (some (.int v)) w2) : zOk S (q + 1) 72 67 [(0, .ref m0), (1, .int l1), (2, .int l2), (3, .int l3), (4, .int l4), (5, .int l5)] [] w Post := by
  unfold mF_node_67 at hk
  refine zi_a (st' := .int 0 :: _) rfl rfl rfl ?_
  exact mT_node_68 hq hk h k
def mF_node_43 (l1 : Int32) (l2 : Int32) (l3 : Int32) (l4 : Int32) (s0 : Int32) (μ : mS) : Option (Int32 × mS) :=
  if l1 = (13 : Int32) then (mF_node_67  l1 l2 l3 l4 s0 μ) else (if l1 = (14 : Int32) then (mF_node_67  l1 l2 l3 l4 s0 μ) else (if l1 = (20 : Int32) then (mF_node_67  l1 l2 l3 l4 s0 μ) else (mF_node_68  l1 l2 l3 l4 s0 (1 : Int32) μ)))
theorem mT_node_43 {S : zS} {q : Nat} {w w0 : zW} {Post : Option Value → zW → Prop} {m0 : Nat} {μ μ2 : mS} {v : Int32} {l1 : Int32} {l2 : Int32} {l3 : Int32} {l4 : Int32} {s0 : Int32} (hq : 3 ≤ q) (hk : mF_node_43 l1 l2 l3 l4 s0 μ = some (v, μ2)) (h : mW m0 w0 μ w) (k : ∀ w2, mW m0 w0 μ2 w2 → Post (some (.int v)) w2) : zOk S (q + 1) 72 43 [(0, .ref m0), (1, .int l1), (2, .int l2), (3, .int l3), (4, .int l4)] [.int s0] w Post := by
  unfold mF_node_43 at hk
  refine zi_l rfl rfl rfl ?_
  refine zi_l rfl rfl rfl ?_
  refine zi_a (st' := .int 13 :: _) rfl rfl rfl ?_
  refine zi_ifd rfl rfl rfl (tgt := 67) (by decide) (fun c1 => ?_) (fun c1 => ?_)
  · rw [if_pos c1] at hk
    exact mT_node_67 hq hk h k
  · rw [if_neg c1] at hk
    refine zi_l rfl rfl rfl ?_
    refine zi_a (st' := .int 14 :: _) rfl rfl rfl ?_
    refine zi_ifd rfl rfl rfl (tgt := 67) (by decide) (fun c2 => ?_) (fun c2 => ?_)
    · rw [if_pos c2] at hk
      exact mT_node_67 hq hk h k
    · rw [if_neg c2] at hk
      refine zi_l rfl rfl rfl ?_
      refine zi_a (st' := .int 20 :: _) rfl rfl rfl ?_
      refine zi_ifd rfl rfl rfl (tgt := 67) (by decide) (fun c3 => ?_) (fun c3 => ?_)
      · rw [if_pos c3] at hk
        exact mT_node_67 hq hk h k
      · rw [if_neg c3] at hk
        refine zi_a (st' := .int 1 :: _) rfl rfl rfl ?_
        refine zi_go rfl rfl rfl (tgt := 68) (by decide) ?_
        exact mT_node_68 hq hk h k
def mF_node_38 (l1 : Int32) (l2 : Int32) (l3 : Int32) (l4 : Int32) (μ : mS) : Option (Int32 × mS) :=
  mF_node_43  l1 l2 l3 l4 (1 : Int32) μ
theorem mT_node_38 {S : zS} {q : Nat} {w w0 : zW} {Post : Option Value → zW → Prop} {m0 : Nat} {μ μ2 : mS} {v : Int32} {l1 : Int32} {l2 : Int32} {l3 : Int32} {l4 : Int32} (hq : 3 ≤ q) (hk : mF_node_38 l1 l2 l3 l4 μ = some (v, μ2)) (h : mW m0 w0 μ w) (k : ∀ w2, mW m0 w0 μ2 w2 → Post (some (.int v)) w2) : zOk S (q + 1) 72 38 [(0, .ref m0), (1, .int l1), (2, .int l2), (3, .int l3), (4, .int l4)] [] w Post := by
  unfold mF_node_38 at hk
  refine zi_a (st' := .int 1 :: _) rfl rfl rfl ?_
  refine zi_go rfl rfl rfl (tgt := 43) (by decide) ?_
  exact mT_node_43 hq hk h k
def mF_node (a1 : Int32) (a2 : Int32) (a3 : Int32) (a4 : Int32) (μ : mS) : Option (Int32 × mS) :=
  match mF_areParts a1 a2 a3 a4 μ with | none => none | some (v2, m3) => if ¬ v2 = 0 then (if a1 = (11 : Int32) then (mF_node_38  a1 a2 a3 a4 m3) else (if a1 = (12 : Int32) then (mF_node_38  a1 a2 a3 a4 m3) else (if a1 = (19 : Int32) then (mF_node_38  a1 a2 a3 a4 m3) else (if ¬ a1 = (20 : Int32) then (mF_node_43  a1 a2 a3 a4 (0 : Int32) m3) else (mF_node_38  a1 a2 a3 a4 m3))))) else (some ((-1 : Int32), m3))
theorem mT_node {S : zS} {q : Nat} {w w0 : zW} {Post : Option Value → zW → Prop} {m0 : Nat} {μ μ2 : mS} {v : Int32} {a1 : Int32} {a2 : Int32} {a3 : Int32} {a4 : Int32} (hq : 3 ≤ q) (hk : mF_node a1 a2 a3 a4 μ = some (v, μ2)) (h : mW m0 w0 μ w) (k : ∀ w2, mW m0 w0 μ2 w2 → Post (some (.int v)) w2) : zOk S (q + 1) 72 0 (lv_args 0 [.ref m0, .int a1, .int a2, .int a3, .int a4]) [] w Post := by
  unfold mF_node at hk
  refine zi_l rfl rfl rfl ?_
  refine zi_l rfl rfl rfl ?_
  refine zi_l rfl rfl rfl ?_
  refine zi_l rfl rfl rfl ?_
  refine zi_l rfl rfl rfl ?_
  cases c1 : mF_areParts a1 a2 a3 a4 μ with
  | none => rw [c1] at hk; cases hk
  | some q1 =>
    obtain ⟨v2, m3⟩ := q1
    rw [c1] at hk
    dsimp only at hk
    refine zm_c h rfl rfl rfl rfl rfl rfl ((mT_areParts (q := 2) (Nat.le_refl _) c1 h (fun w h => ?_)).deep (by omega))
    refine zi_ifd rfl rfl rfl (tgt := 14) (by decide) (fun c4 => ?_) (fun c4 => ?_)
    · rw [if_pos c4] at hk
      refine zi_l rfl rfl rfl ?_
      refine zi_a (st' := .int 11 :: _) rfl rfl rfl ?_
      refine zi_ifd rfl rfl rfl (tgt := 38) (by decide) (fun c5 => ?_) (fun c5 => ?_)
      · rw [if_pos c5] at hk
        exact mT_node_38 hq hk h k
      · rw [if_neg c5] at hk
        refine zi_l rfl rfl rfl ?_
        refine zi_a (st' := .int 12 :: _) rfl rfl rfl ?_
        refine zi_ifd rfl rfl rfl (tgt := 38) (by decide) (fun c6 => ?_) (fun c6 => ?_)
        · rw [if_pos c6] at hk
          exact mT_node_38 hq hk h k
        · rw [if_neg c6] at hk
          refine zi_l rfl rfl rfl ?_
          refine zi_a (st' := .int 19 :: _) rfl rfl rfl ?_
          refine zi_ifd rfl rfl rfl (tgt := 38) (by decide) (fun c7 => ?_) (fun c7 => ?_)
          · rw [if_pos c7] at hk
            exact mT_node_38 hq hk h k
          · rw [if_neg c7] at hk
            refine zi_l rfl rfl rfl ?_
            refine zi_a (st' := .int 20 :: _) rfl rfl rfl ?_
            refine zi_ifd rfl rfl rfl (tgt := 42) (by decide) (fun c8 => ?_) (fun c8 => ?_)
            · rw [if_pos c8] at hk
              refine zi_a (st' := .int 0 :: _) rfl rfl rfl ?_
              exact mT_node_43 hq hk h k
            · rw [if_neg c8] at hk
              exact mT_node_38 hq hk h k
    · rw [if_neg c4] at hk
      refine zi_a (st' := .int (-1) :: _) rfl rfl rfl ?_
      cases hk
      exact zi_ri rfl rfl (k w h)
def mF_counted_152 (k_2 : Int32 → Int32 → mS → Option (Int32 × mS)) (l1 : Int32) (l2 : Int32) (l3 : Int32) (l4 : Int32) (s1 : Int32) (s2 : Int32) (μ : mS) : Option (Int32 × mS) :=
  if zix s1 200 then mPut (mu1 μ 37 (s1).toNatClampNeg s2) fun m2 => k_2 l1 (l2 + Int32.ofInt 1) m2 else none
theorem mT_counted_152 {S : zS} {q : Nat} {w w0 : zW} {Post : Option Value → zW → Prop} {m0 : Nat} {μ μ2 : mS} {v : Int32} {k_2 : Int32 → Int32 → mS → Option (Int32 × mS)} {l1 : Int32} {l2 : Int32} {l3 : Int32} {l4 : Int32} {s1 : Int32} {s2 : Int32} (hq : 0 ≤ q) (H_2 : ∀ (l1 : Int32) (l2 : Int32) (ν : mS) (w : zW), k_2 l1 l2 ν = some (v, μ2) → mW m0 w0 ν w → zOk S (q + 1) 81 2 [(0, .ref m0), (1, .int l1), (2, .int l2)] [] w Post) (hk : mF_counted_152 k_2 l1 l2 l3 l4 s1 s2 μ = some (v, μ2)) (h : mW m0 w0 μ w) (k : ∀ w2, mW m0 w0 μ2 w2 → Post (some (.int v)) w2) : zOk S (q + 1) 81 152 [(0, .ref m0), (1, .int l1), (2, .int l2), (3, .int l3), (4, .int l4)] [.int s2, .int s1, .ref (m0 + mA 37)] w Post := by
  unfold mF_counted_152 at hk
  by_cases q1 : zix s1 200
  case neg => rw [if_neg q1] at hk; cases hk
  rw [if_pos q1] at hk
  refine zm_st (f := 37) h rfl (by decide) rfl q1 (fun w h => ?_)
  generalize mu1 μ 37 (s1).toNatClampNeg s2 = m2 at h hk
  rw [mPut_eq] at hk
  refine zi_l rfl rfl rfl ?_
  refine zi_go rfl rfl rfl (tgt := 2) (by decide) ?_
  refine zk_sub [0, 1, 2] rfl rfl ?_
  exact H_2 _ _ _ _ hk h
def mF_counted_131 (k_2 : Int32 → Int32 → mS → Option (Int32 × mS)) (l1 : Int32) (l2 : Int32) (l3 : Int32) (l4 : Int32) (μ : mS) : Option (Int32 × mS) :=
  if l4 ≤ (500 : Int32) then (mF_counted_152 k_2 l1 l2 l3 l4 l2 l4 μ) else (mF_counted_152 k_2 l1 l2 l3 l4 l2 (501 : Int32) μ)
theorem mT_counted_131 {S : zS} {q : Nat} {w w0 : zW} {Post : Option Value → zW → Prop} {m0 : Nat} {μ μ2 : mS} {v : Int32} {k_2 : Int32 → Int32 → mS → Option (Int32 × mS)} {l1 : Int32} {l2 : Int32} {l3 : Int32} {l4 : Int32} (hq : 0 ≤ q) (H_2 : ∀ (l1 : Int32) (l2 : Int32) (ν : mS) (w : zW), k_2 l1 l2 ν = some (v, μ2) → mW m0 w0 ν w → zOk S (q + 1) 81 2 [(0, .ref m0), (1, .int l1), (2, .int l2)] [] w Post) (hk : mF_counted_131 k_2 l1 l2 l3 l4 μ = some (v, μ2)) (h : mW m0 w0 μ w) (k : ∀ w2, mW m0 w0 μ2 w2 → Post (some (.int v)) w2) : zOk S (q + 1) 81 131 [(0, .ref m0), (1, .int l1), (2, .int l2), (3, .int l3), (4, .int l4)] [] w Post := by
  unfold mF_counted_131 at hk
  refine zi_l rfl rfl rfl ?_
  refine zm_ga (f := 37) h rfl rfl (by decide) ?_
  refine zi_l rfl rfl rfl ?_
  refine zi_l rfl rfl rfl ?_
  refine zi_a (st' := .int 500 :: _) rfl rfl rfl ?_
  refine zi_ifd rfl rfl rfl (tgt := 150) (by decide) (fun c1 => ?_) (fun c1 => ?_)
  · rw [if_pos c1] at hk
    refine zi_l rfl rfl rfl ?_
    exact mT_counted_152 hq H_2 hk h k
  · rw [if_neg c1] at hk
    refine zi_a (st' := .int 501 :: _) rfl rfl rfl ?_
    refine zi_go rfl rfl rfl (tgt := 152) (by decide) ?_
    exact mT_counted_152 hq H_2 hk h k
def mF_counted_35 (k_2 : Int32 → Int32 → mS → Option (Int32 × mS)) (l1 : Int32) (l2 : Int32) (l3 : Int32) (l4 : Int32) (μ : mS) : Option (Int32 × mS) :=
  if zix l2 200 then if zix (μ.1 2 (l2).toNatClampNeg) 200 then if zix l2 200 then if zix (μ.1 3 (l2).toNatClampNeg) 200 then mF_counted_131 k_2 l1 l2 l3 (l4 + ((μ.1 37 ((μ.1 2 (l2).toNatClampNeg)).toNatClampNeg) + (μ.1 37 ((μ.1 3 (l2).toNatClampNeg)).toNatClampNeg))) μ else none else none else none else none
theorem mT_counted_35 {S : zS} {q : Nat} {w w0 : zW} {Post : Option Value → zW → Prop} {m0 : Nat} {μ μ2 : mS} {v : Int32} {k_2 : Int32 → Int32 → mS → Option (Int32 × mS)} {l1 : Int32} {l2 : Int32} {l3 : Int32} {l4 : Int32} (hq : 0 ≤ q) (H_2 : ∀ (l1 : Int32) (l2 : Int32) (ν : mS) (w : zW), k_2 l1 l2 ν = some (v, μ2) → mW m0 w0 ν w → zOk S (q + 1) 81 2 [(0, .ref m0), (1, .int l1), (2, .int l2)] [] w Post) (hk : mF_counted_35 k_2 l1 l2 l3 l4 μ = some (v, μ2)) (h : mW m0 w0 μ w) (k : ∀ w2, mW m0 w0 μ2 w2 → Post (some (.int v)) w2) : zOk S (q + 1) 81 35 [(0, .ref m0), (1, .int l1), (2, .int l2), (3, .int l3), (4, .int l4)] [] w Post := by
  unfold mF_counted_35 at hk
  refine zi_l rfl rfl rfl ?_
  refine zi_l rfl rfl rfl ?_
  refine zm_ga (f := 37) h rfl rfl (by decide) ?_
  refine zi_l rfl rfl rfl ?_
  refine zm_ga (f := 2) h rfl rfl (by decide) ?_
  refine zi_l rfl rfl rfl ?_
  by_cases q1 : zix l2 200
  case neg => rw [if_neg q1] at hk; cases hk
  rw [if_pos q1] at hk
  refine zm_ld (f := 2) h rfl (by decide) rfl q1 ?_
  by_cases q2 : zix (μ.1 2 (l2).toNatClampNeg) 200
  case neg => rw [if_neg q2] at hk; cases hk
  rw [if_pos q2] at hk
  refine zm_ld (f := 37) h rfl (by decide) rfl q2 ?_
  refine zi_l rfl rfl rfl ?_
  refine zm_ga (f := 37) h rfl rfl (by decide) ?_
  refine zi_l rfl rfl rfl ?_
  refine zm_ga (f := 3) h rfl rfl (by decide) ?_
  refine zi_l rfl rfl rfl ?_
  by_cases q3 : zix l2 200
  case neg => rw [if_neg q3] at hk; cases hk
  rw [if_pos q3] at hk
  refine zm_ld (f := 3) h rfl (by decide) rfl q3 ?_
  by_cases q4 : zix (μ.1 3 (l2).toNatClampNeg) 200
  case neg => rw [if_neg q4] at hk; cases hk
  rw [if_pos q4] at hk
  refine zm_ld (f := 37) h rfl (by decide) rfl q4 ?_
  refine zi_a rfl rfl rfl ?_
  refine zi_a rfl rfl rfl ?_
  refine zi_l rfl rfl rfl ?_
  refine zi_go rfl rfl rfl (tgt := 131) (by decide) ?_
  exact mT_counted_131 hq H_2 hk h k
def mF_counted_127 (k_2 : Int32 → Int32 → mS → Option (Int32 × mS)) (l1 : Int32) (l2 : Int32) (l3 : Int32) (l4 : Int32) (s0 : Int32) (s1 : Int32) (s2 : Int32) (μ : mS) : Option (Int32 × mS) :=
  mF_counted_131 k_2 l1 l2 l3 (s0 + (s1 + s2)) μ
theorem mT_counted_127 {S : zS} {q : Nat} {w w0 : zW} {Post : Option Value → zW → Prop} {m0 : Nat} {μ μ2 : mS} {v : Int32} {k_2 : Int32 → Int32 → mS → Option (Int32 × mS)} {l1 : Int32} {l2 : Int32} {l3 : Int32} {l4 : Int32} {s0 : Int32} {s1 : Int32} {s2 : Int32} (hq : 0 ≤ q) (H_2 : ∀ (l1 : Int32) (l2 : Int32) (ν : mS) (w : zW), k_2 l1 l2 ν = some (v, μ2) → mW m0 w0 ν w → zOk S (q + 1) 81 2 [(0, .ref m0), (1, .int l1), (2, .int l2)] [] w Post) (hk : mF_counted_127 k_2 l1 l2 l3 l4 s0 s1 s2 μ = some (v, μ2)) (h : mW m0 w0 μ w) (k : ∀ w2, mW m0 w0 μ2 w2 → Post (some (.int v)) w2) : zOk S (q + 1) 81 127 [(0, .ref m0), (1, .int l1), (2, .int l2), (3, .int l3), (4, .int l4)] [.int s2, .int s1, .int s0] w Post := by
  unfold mF_counted_127 at hk
  refine zi_a rfl rfl rfl ?_
  refine zi_a rfl rfl rfl ?_
  refine zi_l rfl rfl rfl ?_
  exact mT_counted_131 hq H_2 hk h k
def mF_counted_126 (k_2 : Int32 → Int32 → mS → Option (Int32 × mS)) (l1 : Int32) (l2 : Int32) (l3 : Int32) (l4 : Int32) (s0 : Int32) (s1 : Int32) (μ : mS) : Option (Int32 × mS) :=
  mF_counted_127 k_2 l1 l2 l3 l4 s0 s1 (0 : Int32) μ
theorem mT_counted_126 {S : zS} {q : Nat} {w w0 : zW} {Post : Option Value → zW → Prop} {m0 : Nat} {μ μ2 : mS} {v : Int32} {k_2 : Int32 → Int32 → mS → Option (Int32 × mS)} {l1 : Int32} {l2 : Int32} {l3 : Int32} {l4 : Int32} {s0 : Int32} {s1 : Int32} (hq : 0 ≤ q) (H_2 : ∀ (l1 : Int32) (l2 : Int32) (ν : mS) (w : zW), k_2 l1 l2 ν = some (v, μ2) → mW m0 w0 ν w → zOk S (q + 1) 81 2 [(0, .ref m0), (1, .int l1), (2, .int l2)] [] w Post) (hk : mF_counted_126 k_2 l1 l2 l3 l4 s0 s1 μ = some (v, μ2)) (h : mW m0 w0 μ w) (k : ∀ w2, mW m0 w0 μ2 w2 → Post (some (.int v)) w2) : zOk S (q + 1) 81 126 [(0, .ref m0), (1, .int l1), (2, .int l2), (3, .int l3), (4, .int l4)] [.int s1, .int s0] w Post := by
  unfold mF_counted_126 at hk
  refine zi_a (st' := .int 0 :: _) rfl rfl rfl ?_
  exact mT_counted_127 hq H_2 hk h k
def mF_counted_84 (k_2 : Int32 → Int32 → mS → Option (Int32 × mS)) (l1 : Int32) (l2 : Int32) (l3 : Int32) (l4 : Int32) (μ : mS) : Option (Int32 × mS) :=
  if zix l2 200 then if zix (μ.1 3 (l2).toNatClampNeg) 200 then if l3 = (17 : Int32) then (mF_counted_126 k_2 l1 l2 l3 l4 l4 (μ.1 37 ((μ.1 3 (l2).toNatClampNeg)).toNatClampNeg) μ) else (if zix l2 200 then if (μ.1 4 (l2).toNatClampNeg) < 0 then (mF_counted_126 k_2 l1 l2 l3 l4 l4 (μ.1 37 ((μ.1 3 (l2).toNatClampNeg)).toNatClampNeg) μ) else (if zix l2 200 then if zix (μ.1 4 (l2).toNatClampNeg) 200 then mF_counted_127 k_2 l1 l2 l3 l4 l4 (μ.1 37 ((μ.1 3 (l2).toNatClampNeg)).toNatClampNeg) (μ.1 37 ((μ.1 4 (l2).toNatClampNeg)).toNatClampNeg) μ else none else none) else none) else none else none
theorem mT_counted_84 {S : zS} {q : Nat} {w w0 : zW} {Post : Option Value → zW → Prop} {m0 : Nat} {μ μ2 : mS} {v : Int32} {k_2 : Int32 → Int32 → mS → Option (Int32 × mS)} {l1 : Int32} {l2 : Int32} {l3 : Int32} {l4 : Int32} (hq : 0 ≤ q) (H_2 : ∀ (l1 : Int32) (l2 : Int32) (ν : mS) (w : zW), k_2 l1 l2 ν = some (v, μ2) → mW m0 w0 ν w → zOk S (q + 1) 81 2 [(0, .ref m0), (1, .int l1), (2, .int l2)] [] w Post) (hk : mF_counted_84 k_2 l1 l2 l3 l4 μ = some (v, μ2)) (h : mW m0 w0 μ w) (k : ∀ w2, mW m0 w0 μ2 w2 → Post (some (.int v)) w2) : zOk S (q + 1) 81 84 [(0, .ref m0), (1, .int l1), (2, .int l2), (3, .int l3), (4, .int l4)] [] w Post := by
  unfold mF_counted_84 at hk
  refine zi_l rfl rfl rfl ?_
  refine zi_l rfl rfl rfl ?_
  refine zm_ga (f := 37) h rfl rfl (by decide) ?_
  refine zi_l rfl rfl rfl ?_
  refine zm_ga (f := 3) h rfl rfl (by decide) ?_
  refine zi_l rfl rfl rfl ?_
  by_cases q1 : zix l2 200
  case neg => rw [if_neg q1] at hk; cases hk
  rw [if_pos q1] at hk
  refine zm_ld (f := 3) h rfl (by decide) rfl q1 ?_
  by_cases q2 : zix (μ.1 3 (l2).toNatClampNeg) 200
  case neg => rw [if_neg q2] at hk; cases hk
  rw [if_pos q2] at hk
  refine zm_ld (f := 37) h rfl (by decide) rfl q2 ?_
  refine zi_l rfl rfl rfl ?_
  refine zi_a (st' := .int 17 :: _) rfl rfl rfl ?_
  refine zi_ifd rfl rfl rfl (tgt := 126) (by decide) (fun c3 => ?_) (fun c3 => ?_)
  · rw [if_pos c3] at hk
    exact mT_counted_126 hq H_2 hk h k
  · rw [if_neg c3] at hk
    refine zi_l rfl rfl rfl ?_
    refine zm_ga (f := 4) h rfl rfl (by decide) ?_
    refine zi_l rfl rfl rfl ?_
    by_cases q4 : zix l2 200
    case neg => rw [if_neg q4] at hk; cases hk
    rw [if_pos q4] at hk
    refine zm_ld (f := 4) h rfl (by decide) rfl q4 ?_
    refine zi_ifd rfl rfl rfl (tgt := 126) (by decide) (fun c5 => ?_) (fun c5 => ?_)
    · rw [if_pos c5] at hk
      exact mT_counted_126 hq H_2 hk h k
    · rw [if_neg c5] at hk
      refine zi_l rfl rfl rfl ?_
      refine zm_ga (f := 37) h rfl rfl (by decide) ?_
      refine zi_l rfl rfl rfl ?_
      refine zm_ga (f := 4) h rfl rfl (by decide) ?_
      refine zi_l rfl rfl rfl ?_
      by_cases q6 : zix l2 200
      case neg => rw [if_neg q6] at hk; cases hk
      rw [if_pos q6] at hk
      refine zm_ld (f := 4) h rfl (by decide) rfl q6 ?_
      by_cases q7 : zix (μ.1 4 (l2).toNatClampNeg) 200
      case neg => rw [if_neg q7] at hk; cases hk
      rw [if_pos q7] at hk
      refine zm_ld (f := 37) h rfl (by decide) rfl q7 ?_
      refine zi_go rfl rfl rfl (tgt := 127) (by decide) ?_
      exact mT_counted_127 hq H_2 hk h k
def mF_counted_2b (k_2 : Int32 → Int32 → mS → Option (Int32 × mS)) (l1 : Int32) (l2 : Int32) (μ : mS) : Option (Int32 × mS) :=
  if l1 < l2 then (if zix l1 200 then some ((μ.1 37 (l1).toNatClampNeg), μ) else none) else (if zix l2 200 then if (μ.1 1 (l2).toNatClampNeg) = (10 : Int32) then (mF_counted_35 k_2 l1 l2 (μ.1 1 (l2).toNatClampNeg) (1 : Int32) μ) else (if (μ.1 1 (l2).toNatClampNeg) = (15 : Int32) then (mF_counted_35 k_2 l1 l2 (μ.1 1 (l2).toNatClampNeg) (1 : Int32) μ) else (if ¬ (μ.1 1 (l2).toNatClampNeg) = (21 : Int32) then (if (μ.1 1 (l2).toNatClampNeg) = (16 : Int32) then (mF_counted_84 k_2 l1 l2 (μ.1 1 (l2).toNatClampNeg) (1 : Int32) μ) else (if (μ.1 1 (l2).toNatClampNeg) = (17 : Int32) then (mF_counted_84 k_2 l1 l2 (μ.1 1 (l2).toNatClampNeg) (1 : Int32) μ) else (if ¬ (μ.1 1 (l2).toNatClampNeg) = (18 : Int32) then (mF_counted_131 k_2 l1 l2 (μ.1 1 (l2).toNatClampNeg) (1 : Int32) μ) else (mF_counted_84 k_2 l1 l2 (μ.1 1 (l2).toNatClampNeg) (1 : Int32) μ)))) else (mF_counted_35 k_2 l1 l2 (μ.1 1 (l2).toNatClampNeg) (1 : Int32) μ))) else none)
theorem mT_counted_2b {S : zS} {q : Nat} {w w0 : zW} {Post : Option Value → zW → Prop} {m0 : Nat} {μ μ2 : mS} {v : Int32} {k_2 : Int32 → Int32 → mS → Option (Int32 × mS)} {l1 : Int32} {l2 : Int32} (hq : 0 ≤ q) (H_2 : ∀ (l1 : Int32) (l2 : Int32) (ν : mS) (w : zW), k_2 l1 l2 ν = some (v, μ2) → mW m0 w0 ν w → zOk S (q + 1) 81 2 [(0, .ref m0), (1, .int l1), (2, .int l2)] [] w Post) (hk : mF_counted_2b k_2 l1 l2 μ = some (v, μ2)) (h : mW m0 w0 μ w) (k : ∀ w2, mW m0 w0 μ2 w2 → Post (some (.int v)) w2) : zOk S (q + 1) 81 2 [(0, .ref m0), (1, .int l1), (2, .int l2)] [] w Post := by
  unfold mF_counted_2b at hk
  refine zi_l rfl rfl rfl ?_
  refine zi_l rfl rfl rfl ?_
  refine zi_ifd rfl rfl rfl (tgt := 159) (by decide) (fun c1 => ?_) (fun c1 => ?_)
  · rw [if_pos c1] at hk
    refine zi_l rfl rfl rfl ?_
    refine zm_ga (f := 37) h rfl rfl (by decide) ?_
    refine zi_l rfl rfl rfl ?_
    by_cases q2 : zix l1 200
    case neg => rw [if_neg q2] at hk; cases hk
    rw [if_pos q2] at hk
    refine zm_ld (f := 37) h rfl (by decide) rfl q2 ?_
    cases hk
    exact zi_ri rfl rfl (k w h)
  · rw [if_neg c1] at hk
    refine zi_l rfl rfl rfl ?_
    refine zm_ga (f := 1) h rfl rfl (by decide) ?_
    refine zi_l rfl rfl rfl ?_
    by_cases q3 : zix l2 200
    case neg => rw [if_neg q3] at hk; cases hk
    rw [if_pos q3] at hk
    refine zm_ld (f := 1) h rfl (by decide) rfl q3 ?_
    refine zi_l rfl rfl rfl ?_
    refine zi_a (st' := .int 1 :: _) rfl rfl rfl ?_
    refine zi_l rfl rfl rfl ?_
    refine zi_l rfl rfl rfl ?_
    refine zi_a (st' := .int 10 :: _) rfl rfl rfl ?_
    refine zi_ifd rfl rfl rfl (tgt := 35) (by decide) (fun c4 => ?_) (fun c4 => ?_)
    · rw [if_pos c4] at hk
      exact mT_counted_35 hq H_2 hk h k
    · rw [if_neg c4] at hk
      refine zi_l rfl rfl rfl ?_
      refine zi_a (st' := .int 15 :: _) rfl rfl rfl ?_
      refine zi_ifd rfl rfl rfl (tgt := 35) (by decide) (fun c5 => ?_) (fun c5 => ?_)
      · rw [if_pos c5] at hk
        exact mT_counted_35 hq H_2 hk h k
      · rw [if_neg c5] at hk
        refine zi_l rfl rfl rfl ?_
        refine zi_a (st' := .int 21 :: _) rfl rfl rfl ?_
        refine zi_ifd rfl rfl rfl (tgt := 66) (by decide) (fun c6 => ?_) (fun c6 => ?_)
        · rw [if_pos c6] at hk
          refine zi_l rfl rfl rfl ?_
          refine zi_a (st' := .int 16 :: _) rfl rfl rfl ?_
          refine zi_ifd rfl rfl rfl (tgt := 84) (by decide) (fun c7 => ?_) (fun c7 => ?_)
          · rw [if_pos c7] at hk
            exact mT_counted_84 hq H_2 hk h k
          · rw [if_neg c7] at hk
            refine zi_l rfl rfl rfl ?_
            refine zi_a (st' := .int 17 :: _) rfl rfl rfl ?_
            refine zi_ifd rfl rfl rfl (tgt := 84) (by decide) (fun c8 => ?_) (fun c8 => ?_)
            · rw [if_pos c8] at hk
              exact mT_counted_84 hq H_2 hk h k
            · rw [if_neg c8] at hk
              refine zi_l rfl rfl rfl ?_
              refine zi_a (st' := .int 18 :: _) rfl rfl rfl ?_
              refine zi_ifd rfl rfl rfl (tgt := 131) (by decide) (fun c9 => ?_) (fun c9 => ?_)
              · rw [if_pos c9] at hk
                exact mT_counted_131 hq H_2 hk h k
              · rw [if_neg c9] at hk
                exact mT_counted_84 hq H_2 hk h k
        · rw [if_neg c6] at hk
          exact mT_counted_35 hq H_2 hk h k
def mF_counted_2 : Nat → Int32 → Int32 → mS → Option (Int32 × mS)
  | 0 => fun _ _ _ => none
  | n + 1 => fun l1 l2 μ => mF_counted_2b (mF_counted_2 n) l1 l2 μ
theorem mT_counted_2 {S : zS} {q : Nat} {w0 : zW} {Post : Option Value → zW → Prop} {m0 : Nat} {μ2 : mS} {v : Int32} (hq : 0 ≤ q) (k : ∀ w2, mW m0 w0 μ2 w2 → Post (some (.int v)) w2) : ∀ (n : Nat) (l1 : Int32) (l2 : Int32) (μ : mS) (w : zW), mF_counted_2 n l1 l2 μ = some (v, μ2) → mW m0 w0 μ w → zOk S (q + 1) 81 2 [(0, .ref m0), (1, .int l1), (2, .int l2)] [] w Post := by
  intro n
  induction n with
  | zero => intro l1 l2 μ w hk; cases hk
  | succ n ih => intro l1 l2 μ w hk h; exact mT_counted_2b hq ih hk h k
def mF_counted (a1 : Int32) (μ : mS) : Option (Int32 × mS) :=
  mF_counted_2  210 a1 (0 : Int32) μ
theorem mT_counted {S : zS} {q : Nat} {w w0 : zW} {Post : Option Value → zW → Prop} {m0 : Nat} {μ μ2 : mS} {v : Int32} {a1 : Int32} (hq : 0 ≤ q) (hk : mF_counted a1 μ = some (v, μ2)) (h : mW m0 w0 μ w) (k : ∀ w2, mW m0 w0 μ2 w2 → Post (some (.int v)) w2) : zOk S (q + 1) 81 0 (lv_args 0 [.ref m0, .int a1]) [] w Post := by
  unfold mF_counted at hk
  refine zi_a (st' := .int 0 :: _) rfl rfl rfl ?_
  refine zi_l rfl rfl rfl ?_
  exact mT_counted_2 hq k 210 _ _ _ _ hk h
end
